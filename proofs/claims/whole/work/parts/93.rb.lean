/-! The reference's arrays: writing one list, reading and writing by the state (laid by wip/whole/p93.py). -/
-- t' agrees with t but where W allows
def ag (W : Nat → Nat → Prop) (t t' : rf_S) : Prop := (∀ f j, ¬ W f j → t'.1 f j = t.1 f j ∧ t'.2.1 f j = t.2.1 f j) ∧ t'.2.2.1 62 = t.2.2.1 62
section AG
variable {W : Nat → Nat → Prop} {t t' t2 : rf_S}
theorem ag.rf : ag W t t := ⟨fun _ _ _ => ⟨rfl, rfl⟩, rfl⟩
theorem ag.tr (a : ag W t t') (b : ag W t' t2) : ag W t t2 := ⟨fun f j h => ⟨((b.1 f j h).1).trans (a.1 f j h).1, ((b.1 f j h).2).trans (a.1 f j h).2⟩, b.2.trans a.2⟩
theorem ag.i (A : ag W t t') (f j : Nat) (h : ¬ W f j) : t'.1 f j = t.1 f j := (A.1 f j h).1
theorem ag.l (A : ag W t t') (f j : Nat) (h : ¬ W f j) : t'.2.1 f j = t.2.1 f j := (A.1 f j h).2
theorem uI_1 (t : rf_S) (f j : Nat) (v : Int32) (g i : Nat) : (uI t f j v).1 g i = if g = f ∧ i = j then v else t.1 g i := by
  unfold uI
  by_cases e : g = f
  · subst e
    by_cases e2 : i = j
    · subst e2; simp [va_up]
    · simp [va_up, e2]
  · simp [e]
theorem uL_1 (t : rf_S) (f j : Nat) (v : Int64) (g i : Nat) : (uL t f j v).2.1 g i = if g = f ∧ i = j then v else t.2.1 g i := by
  unfold uL
  by_cases e : g = f
  · subst e
    by_cases e2 : i = j
    · subst e2; simp [va_up]
    · simp [va_up, e2]
  · simp [e]
theorem uS_1 (t : rf_S) (f : Nat) (v : Int32) (g : Nat) : (uS t f v).2.2.1 g = if g = f then v else t.2.2.1 g := rfl
theorem uK_1 (t : rf_S) (f : Nat) (v : Int64) (g : Nat) : (uK t f v).2.2.2 g = if g = f then v else t.2.2.2 g := rfl
theorem ag.wI (A : ag W t t') {f j : Nat} (v : Int32) (h : W f j) : ag W t (uI t' f j v) := by
  refine ⟨fun g i hg => ⟨?_, (A.1 g i hg).2⟩, A.2⟩
  rw [uI_1, if_neg (fun q => hg (by rw [q.1, q.2]; exact h))]; exact (A.1 g i hg).1
theorem ag.wL (A : ag W t t') {f j : Nat} (v : Int64) (h : W f j) : ag W t (uL t' f j v) := by
  refine ⟨fun g i hg => ⟨(A.1 g i hg).1, ?_⟩, A.2⟩
  rw [uL_1, if_neg (fun q => hg (by rw [q.1, q.2]; exact h))]; exact (A.1 g i hg).2
theorem ag.wS (A : ag W t t') {f : Nat} (v : Int32) (h : ¬ f = 62) : ag W t (uS t' f v) := ⟨A.1, by rw [uS_1, if_neg (fun q => h q.symm)]; exact A.2⟩
theorem ag.wK (A : ag W t t') (f : Nat) (v : Int64) : ag W t (uK t' f v) := A
end AG
theorem rpk.cg {t t' : rf_S} {i : Nat} {p : hb_Pk} (h : ∀ f, 1 ≤ f → f < 12 → t'.1 f i = t.1 f i ∧ t'.2.1 f i = t.2.1 f i) (r : rpk t i p) : rpk t' i p := by
  obtain ⟨a1, a2, a3, a4, a5, a6, a7, a8⟩ := r
  exact ⟨(h 1 (by decide) (by decide)).1.trans a1, (h 2 (by decide) (by decide)).1.trans a2, (h 3 (by decide) (by decide)).1.trans a3, (h 4 (by decide) (by decide)).1.trans a4, (h 5 (by decide) (by decide)).1.trans a5, (h 6 (by decide) (by decide)).1.trans a6, fun q => ⟨(h 8 (by decide) (by decide)).1.trans (a7 q).1, (h 9 (by decide) (by decide)).1.trans (a7 q).2.1, (h 10 (by decide) (by decide)).2.trans (a7 q).2.2.1, (h 11 (by decide) (by decide)).1.trans (a7 q).2.2.2⟩, fun q => (h 7 (by decide) (by decide)).2.trans (a8 q)⟩
theorem rstP.cg {t t' : rf_S} {i : Nat} {x : hb_Pa} (h : ∀ f, 24 ≤ f → f < 30 → t'.1 f i = t.1 f i ∧ t'.2.1 f i = t.2.1 f i) (r : rstP t i x) : rstP t' i x := by
  obtain ⟨a1, a2, a3, a4, a5, a6⟩ := r
  exact ⟨(h 24 (by decide) (by decide)).2.trans a1, (h 25 (by decide) (by decide)).1.trans a2, (h 26 (by decide) (by decide)).1.trans a3, (h 27 (by decide) (by decide)).1.trans a4, (h 28 (by decide) (by decide)).1.trans a5, fun q => (h 29 (by decide) (by decide)).1.trans (a6 q)⟩
theorem rsbP.cg {t t' : rf_S} {i : Nat} {x : hb_Sb} (h : ∀ f, 44 ≤ f → f < 47 → t'.1 f i = t.1 f i ∧ t'.2.1 f i = t.2.1 f i) (r : rsbP t i x) : rsbP t' i x := ⟨(h 44 (by decide) (by decide)).2.trans r.1, (h 45 (by decide) (by decide)).1.trans r.2.1, (h 46 (by decide) (by decide)).1.trans r.2.2⟩
theorem rhm.cg {t t' : rf_S} {i : Nat} {m : hb_Ms} (h : ∀ f, 49 ≤ f → f < 55 → t'.1 f i = t.1 f i ∧ t'.2.1 f i = t.2.1 f i) (r : rhm t i m) : rhm t' i m := ⟨(h 49 (by decide) (by decide)).2.trans r.1, (h 50 (by decide) (by decide)).1.trans r.2.1, (h 51 (by decide) (by decide)).1.trans r.2.2.1, (h 52 (by decide) (by decide)).1.trans r.2.2.2⟩
-- bounds
def BD (s : hb_S) : Prop := (∀ l, l < 6 → (sN s l).length ≤ 31) ∧ (∀ c, c < 3 → (sP s c).length ≤ 4) ∧ (∀ c, c < 3 → (sB s c).length ≤ 4) ∧ (∀ c, c < 3 → (sP s (3 + c)).length + (sM s c).length ≤ 7) ∧ (sM s 3).length ≤ 4
def WN (l f j : Nat) : Prop := (f = 0 ∧ j = l) ∨ (1 ≤ f ∧ f < 12 ∧ 32 * l ≤ j ∧ j < 32 * l + 32)
def WP (c f j : Nat) : Prop := (f = 23 ∧ j = c) ∨ (24 ≤ f ∧ f < 30 ∧ 4 * c ≤ j ∧ j < 4 * c + 4)
def WB (c f j : Nat) : Prop := (f = 43 ∧ j = c) ∨ (44 ≤ f ∧ f < 47 ∧ 4 * c ≤ j ∧ j < 4 * c + 4)
def WU (c f j : Nat) : Prop := ((f = 47 ∨ f = 48) ∧ j = c) ∨ (49 ≤ f ∧ f < 55 ∧ 8 * c ≤ j ∧ j < 8 * c + 8)
def WK (f j : Nat) : Prop := 59 ≤ f ∧ f < 62 ∧ j < 4
def WH (g c f j : Nat) : Prop := f = g ∧ 9 * c ≤ j ∧ j < 9 * c + 9
section RB
variable {s : hb_S} {t t' : rf_S} {c l : Nat}
theorem RR.line {ps : List hb_Pk} (H : RR s t) (B : BD s) (A : ag (WN l) t t') (K : t'.2.2.1 58 = t.2.2.1 58) (R : rln t' l ps) : RR (tN s l ps) t' := ⟨fun c hc => (A.i 22 c (by unfold WN; omega)).trans (H.c0 c hc), fun c hc => (A.i 36 c (by unfold WN; omega)).trans (H.c1 c hc), fun c hc => (A.i 31 c (by unfold WN; omega)).trans (H.c2 c hc), fun c hc => (A.i 34 c (by unfold WN; omega)).trans (H.c3 c hc), fun c hc => (A.i 35 c (by unfold WN; omega)).trans (H.c5 c hc), fun c hc => (A.i 37 c (by unfold WN; omega)).trans (H.c6 c hc), fun c hc => (A.i 39 c (by unfold WN; omega)).trans (H.c7 c hc), fun c hc => (A.i 38 c (by unfold WN; omega)).trans (H.c8 c hc), fun c hc => (A.i 41 c (by unfold WN; omega)).trans (H.c9 c hc), fun c hc => (A.i 42 c (by unfold WN; omega)).trans (H.c10 c hc), fun c hc => (A.i 56 c (by unfold WN; omega)).trans (H.c11 c hc), fun c hc => (A.i 57 c (by unfold WN; omega)).trans (H.c12 c hc), fun c hc => (A.l 33 c (by unfold WN; omega)).trans (H.j0 c hc), fun c hc => (A.l 40 c (by unfold WN; omega)).trans (H.j1 c hc), fun c hc i hi => (A.i 30 (9 * c + i) (by unfold WN; omega)).trans (H.h4 c hc i hi), fun c hc i hi => (A.i 55 (9 * c + i) (by unfold WN; omega)).trans (H.h13 c hc i hi), fun c hc i hi => (A.i 32 (100 * c + i) (by unfold WN; omega)).trans (H.x c hc i hi), fun l' hl' => by
  by_cases e : l' = l
  · subst e; show rln t' l' (va_up s.2.2.2.1 l' ps l'); rw [va_up_self]; exact R
  · show rln t' l' (va_up s.2.2.2.1 l ps l')
    rw [va_up_ne _ _ e]
    refine ⟨(A.i 0 l' (by unfold WN; omega)).trans (H.n l' hl').1, fun k p hk => ((H.n l' hl').2 k p hk).cg (fun f h1 h2 => A.1 f _ ?_)⟩
    have h3 := (List.getElem?_eq_some_iff.mp hk).1
    have h4 := B.1 l' hl'
    unfold WN; simp only [sN] at h4; omega, fun c hc => ⟨(A.i 23 c (by unfold WN; omega)).trans (H.p c hc).1, fun k x hk => ((H.p c hc).2 k x hk).cg (fun f h1 h2 => A.1 f _ (by unfold WN; omega))⟩, fun c hc => ⟨(A.i 43 c (by unfold WN; omega)).trans (H.b c hc).1, fun k x hk => ((H.b c hc).2 k x hk).cg (fun f h1 h2 => A.1 f _ (by unfold WN; omega))⟩, fun c hc => ⟨(A.i 47 c (by unfold WN; omega)).trans (H.u c hc).1, (A.i 48 c (by unfold WN; omega)).trans (H.u c hc).2.1, fun k x hk => ⟨((H.u c hc).2.2.1 k x hk).1.cg (fun f h1 h2 => A.1 f _ (by unfold WN; omega)), (A.i 53 _ (by unfold WN; omega)).trans ((H.u c hc).2.2.1 k x hk).2.1, (A.i 54 _ (by unfold WN; omega)).trans ((H.u c hc).2.2.1 k x hk).2.2⟩, fun k m hk => ((H.u c hc).2.2.2 k m hk).cg (fun f h1 h2 => A.1 f _ (by unfold WN; omega))⟩, ⟨K.trans H.k.1, fun k m hk => ⟨(A.l 59 k (by unfold WN; omega)).trans (H.k.2 k m hk).1, (A.i 60 k (by unfold WN; omega)).trans (H.k.2 k m hk).2.1, (A.i 61 k (by unfold WN; omega)).trans (H.k.2 k m hk).2.2⟩⟩, A.2.trans H.f⟩
theorem RR.store {ps : List hb_Pa} (hc : c < 3) (H : RR s t) (B : BD s) (A : ag (WP c) t t') (K : t'.2.2.1 58 = t.2.2.1 58) (R : rst t' c ps) : RR (tP s c ps) t' := ⟨fun c hc => (A.i 22 c (by unfold WP; omega)).trans (H.c0 c hc), fun c hc => (A.i 36 c (by unfold WP; omega)).trans (H.c1 c hc), fun c hc => (A.i 31 c (by unfold WP; omega)).trans (H.c2 c hc), fun c hc => (A.i 34 c (by unfold WP; omega)).trans (H.c3 c hc), fun c hc => (A.i 35 c (by unfold WP; omega)).trans (H.c5 c hc), fun c hc => (A.i 37 c (by unfold WP; omega)).trans (H.c6 c hc), fun c hc => (A.i 39 c (by unfold WP; omega)).trans (H.c7 c hc), fun c hc => (A.i 38 c (by unfold WP; omega)).trans (H.c8 c hc), fun c hc => (A.i 41 c (by unfold WP; omega)).trans (H.c9 c hc), fun c hc => (A.i 42 c (by unfold WP; omega)).trans (H.c10 c hc), fun c hc => (A.i 56 c (by unfold WP; omega)).trans (H.c11 c hc), fun c hc => (A.i 57 c (by unfold WP; omega)).trans (H.c12 c hc), fun c hc => (A.l 33 c (by unfold WP; omega)).trans (H.j0 c hc), fun c hc => (A.l 40 c (by unfold WP; omega)).trans (H.j1 c hc), fun c hc i hi => (A.i 30 (9 * c + i) (by unfold WP; omega)).trans (H.h4 c hc i hi), fun c hc i hi => (A.i 55 (9 * c + i) (by unfold WP; omega)).trans (H.h13 c hc i hi), fun c hc i hi => (A.i 32 (100 * c + i) (by unfold WP; omega)).trans (H.x c hc i hi), fun l hl => ⟨(A.i 0 l (by unfold WP; omega)).trans (H.n l hl).1, fun k p hk => ((H.n l hl).2 k p hk).cg (fun f h1 h2 => A.1 f _ (by unfold WP; omega))⟩, fun c' hc' => by
  by_cases e : c' = c
  · subst e; show rst t' c' (va_up s.2.2.2.2.1 c' ps c'); rw [va_up_self]; exact R
  · show rst t' c' (va_up s.2.2.2.2.1 c ps c')
    rw [va_up_ne _ _ e]
    refine ⟨(A.i 23 c' (by unfold WP; omega)).trans (H.p c' hc').1, fun k p hk => ((H.p c' hc').2 k p hk).cg (fun f h1 h2 => A.1 f _ ?_)⟩
    have h3 := (List.getElem?_eq_some_iff.mp hk).1
    have h4 := B.2.1 c' hc'
    unfold WP; simp only [sP] at h4; omega, fun c hc => ⟨(A.i 43 c (by unfold WP; omega)).trans (H.b c hc).1, fun k x hk => ((H.b c hc).2 k x hk).cg (fun f h1 h2 => A.1 f _ (by unfold WP; omega))⟩, fun c' hc' => by
  have e : sP (tP s c ps) (3 + c') = sP s (3 + c') := by simp only [sP, tP]; exact va_up_ne _ _ (by omega)
  rw [e]
  exact ⟨(A.i 47 c' (by unfold WP; omega)).trans (H.u c' hc').1, (A.i 48 c' (by unfold WP; omega)).trans (H.u c' hc').2.1, fun k x hk => ⟨((H.u c' hc').2.2.1 k x hk).1.cg (fun f h1 h2 => A.1 f _ (by unfold WP; omega)), (A.i 53 _ (by unfold WP; omega)).trans ((H.u c' hc').2.2.1 k x hk).2.1, (A.i 54 _ (by unfold WP; omega)).trans ((H.u c' hc').2.2.1 k x hk).2.2⟩, fun k m hk => ((H.u c' hc').2.2.2 k m hk).cg (fun f h1 h2 => A.1 f _ (by unfold WP; omega))⟩, ⟨K.trans H.k.1, fun k m hk => ⟨(A.l 59 k (by unfold WP; omega)).trans (H.k.2 k m hk).1, (A.i 60 k (by unfold WP; omega)).trans (H.k.2 k m hk).2.1, (A.i 61 k (by unfold WP; omega)).trans (H.k.2 k m hk).2.2⟩⟩, A.2.trans H.f⟩
theorem RR.subs {ps : List hb_Sb} (H : RR s t) (B : BD s) (A : ag (WB c) t t') (K : t'.2.2.1 58 = t.2.2.1 58) (R : rsb t' c ps) : RR (tB s c ps) t' := ⟨fun c hc => (A.i 22 c (by unfold WB; omega)).trans (H.c0 c hc), fun c hc => (A.i 36 c (by unfold WB; omega)).trans (H.c1 c hc), fun c hc => (A.i 31 c (by unfold WB; omega)).trans (H.c2 c hc), fun c hc => (A.i 34 c (by unfold WB; omega)).trans (H.c3 c hc), fun c hc => (A.i 35 c (by unfold WB; omega)).trans (H.c5 c hc), fun c hc => (A.i 37 c (by unfold WB; omega)).trans (H.c6 c hc), fun c hc => (A.i 39 c (by unfold WB; omega)).trans (H.c7 c hc), fun c hc => (A.i 38 c (by unfold WB; omega)).trans (H.c8 c hc), fun c hc => (A.i 41 c (by unfold WB; omega)).trans (H.c9 c hc), fun c hc => (A.i 42 c (by unfold WB; omega)).trans (H.c10 c hc), fun c hc => (A.i 56 c (by unfold WB; omega)).trans (H.c11 c hc), fun c hc => (A.i 57 c (by unfold WB; omega)).trans (H.c12 c hc), fun c hc => (A.l 33 c (by unfold WB; omega)).trans (H.j0 c hc), fun c hc => (A.l 40 c (by unfold WB; omega)).trans (H.j1 c hc), fun c hc i hi => (A.i 30 (9 * c + i) (by unfold WB; omega)).trans (H.h4 c hc i hi), fun c hc i hi => (A.i 55 (9 * c + i) (by unfold WB; omega)).trans (H.h13 c hc i hi), fun c hc i hi => (A.i 32 (100 * c + i) (by unfold WB; omega)).trans (H.x c hc i hi), fun l hl => ⟨(A.i 0 l (by unfold WB; omega)).trans (H.n l hl).1, fun k p hk => ((H.n l hl).2 k p hk).cg (fun f h1 h2 => A.1 f _ (by unfold WB; omega))⟩, fun c hc => ⟨(A.i 23 c (by unfold WB; omega)).trans (H.p c hc).1, fun k x hk => ((H.p c hc).2 k x hk).cg (fun f h1 h2 => A.1 f _ (by unfold WB; omega))⟩, fun c' hc' => by
  by_cases e : c' = c
  · subst e; show rsb t' c' (va_up s.2.2.2.2.2.1 c' ps c'); rw [va_up_self]; exact R
  · show rsb t' c' (va_up s.2.2.2.2.2.1 c ps c')
    rw [va_up_ne _ _ e]
    refine ⟨(A.i 43 c' (by unfold WB; omega)).trans (H.b c' hc').1, fun k p hk => ((H.b c' hc').2 k p hk).cg (fun f h1 h2 => A.1 f _ ?_)⟩
    have h3 := (List.getElem?_eq_some_iff.mp hk).1
    have h4 := B.2.2.1 c' hc'
    unfold WB; simp only [sB] at h4; omega, fun c hc => ⟨(A.i 47 c (by unfold WB; omega)).trans (H.u c hc).1, (A.i 48 c (by unfold WB; omega)).trans (H.u c hc).2.1, fun k x hk => ⟨((H.u c hc).2.2.1 k x hk).1.cg (fun f h1 h2 => A.1 f _ (by unfold WB; omega)), (A.i 53 _ (by unfold WB; omega)).trans ((H.u c hc).2.2.1 k x hk).2.1, (A.i 54 _ (by unfold WB; omega)).trans ((H.u c hc).2.2.1 k x hk).2.2⟩, fun k m hk => ((H.u c hc).2.2.2 k m hk).cg (fun f h1 h2 => A.1 f _ (by unfold WB; omega))⟩, ⟨K.trans H.k.1, fun k m hk => ⟨(A.l 59 k (by unfold WB; omega)).trans (H.k.2 k m hk).1, (A.i 60 k (by unfold WB; omega)).trans (H.k.2 k m hk).2.1, (A.i 61 k (by unfold WB; omega)).trans (H.k.2 k m hk).2.2⟩⟩, A.2.trans H.f⟩
theorem RR.here {us : List hb_Pa} {ms : List hb_Ms} (hc : c < 3) (H : RR s t) (B : BD s) (A : ag (WU c) t t') (K : t'.2.2.1 58 = t.2.2.1 58) (R : rhr t' c us ms) : RR (tP (tM s c ms) (3 + c) us) t' := ⟨fun c hc => (A.i 22 c (by unfold WU; omega)).trans (H.c0 c hc), fun c hc => (A.i 36 c (by unfold WU; omega)).trans (H.c1 c hc), fun c hc => (A.i 31 c (by unfold WU; omega)).trans (H.c2 c hc), fun c hc => (A.i 34 c (by unfold WU; omega)).trans (H.c3 c hc), fun c hc => (A.i 35 c (by unfold WU; omega)).trans (H.c5 c hc), fun c hc => (A.i 37 c (by unfold WU; omega)).trans (H.c6 c hc), fun c hc => (A.i 39 c (by unfold WU; omega)).trans (H.c7 c hc), fun c hc => (A.i 38 c (by unfold WU; omega)).trans (H.c8 c hc), fun c hc => (A.i 41 c (by unfold WU; omega)).trans (H.c9 c hc), fun c hc => (A.i 42 c (by unfold WU; omega)).trans (H.c10 c hc), fun c hc => (A.i 56 c (by unfold WU; omega)).trans (H.c11 c hc), fun c hc => (A.i 57 c (by unfold WU; omega)).trans (H.c12 c hc), fun c hc => (A.l 33 c (by unfold WU; omega)).trans (H.j0 c hc), fun c hc => (A.l 40 c (by unfold WU; omega)).trans (H.j1 c hc), fun c hc i hi => (A.i 30 (9 * c + i) (by unfold WU; omega)).trans (H.h4 c hc i hi), fun c hc i hi => (A.i 55 (9 * c + i) (by unfold WU; omega)).trans (H.h13 c hc i hi), fun c hc i hi => (A.i 32 (100 * c + i) (by unfold WU; omega)).trans (H.x c hc i hi), fun l hl => ⟨(A.i 0 l (by unfold WU; omega)).trans (H.n l hl).1, fun k p hk => ((H.n l hl).2 k p hk).cg (fun f h1 h2 => A.1 f _ (by unfold WU; omega))⟩, fun c' hc' => by
  have e : sP (tP (tM s c ms) (3 + c) us) c' = sP s c' := by simp only [sP, tP, tM]; exact va_up_ne _ _ (by omega)
  rw [e]
  exact ⟨(A.i 23 c' (by unfold WU; omega)).trans (H.p c' hc').1, fun k x hk => ((H.p c' hc').2 k x hk).cg (fun f h1 h2 => A.1 f _ (by unfold WU; omega))⟩, fun c hc => ⟨(A.i 43 c (by unfold WU; omega)).trans (H.b c hc).1, fun k x hk => ((H.b c hc).2 k x hk).cg (fun f h1 h2 => A.1 f _ (by unfold WU; omega))⟩, fun c' hc' => by
  by_cases e : c' = c
  · subst e
    have e1 : sP (tP (tM s c' ms) (3 + c') us) (3 + c') = us := sP_tP _ _ _
    have e2 : sM (tP (tM s c' ms) (3 + c') us) c' = ms := sM_tM _ _ _
    rw [e1, e2]; exact R
  · have e1 : sP (tP (tM s c ms) (3 + c) us) (3 + c') = sP s (3 + c') := by simp only [sP, tP, tM]; exact va_up_ne _ _ (by omega)
    have e2 : sM (tP (tM s c ms) (3 + c) us) c' = sM s c' := by simp only [sM, tP, tM]; exact va_up_ne _ _ e
    rw [e1, e2]
    have h4 := B.2.2.2.1 c' hc'
    refine ⟨(A.i 47 c' (by unfold WU; omega)).trans (H.u c' hc').1, (A.i 48 c' (by unfold WU; omega)).trans (H.u c' hc').2.1, fun k x hk => ?_, fun k m hk => ?_⟩
    · have h3 := (List.getElem?_eq_some_iff.mp hk).1
      exact ⟨((H.u c' hc').2.2.1 k x hk).1.cg (fun f h1 h2 => A.1 f _ (by unfold WU; omega)), (A.i 53 _ (by unfold WU; omega)).trans ((H.u c' hc').2.2.1 k x hk).2.1, (A.i 54 _ (by unfold WU; omega)).trans ((H.u c' hc').2.2.1 k x hk).2.2⟩
    · have h3 := (List.getElem?_eq_some_iff.mp hk).1
      exact ((H.u c' hc').2.2.2 k m hk).cg (fun f h1 h2 => A.1 f _ (by unfold WU; omega)), by
  have e : sM (tP (tM s c ms) (3 + c) us) 3 = sM s 3 := by simp only [sM, tP, tM]; exact va_up_ne _ _ (by omega)
  rw [e]
  exact ⟨K.trans H.k.1, fun k m hk => ⟨(A.l 59 k (by unfold WU; omega)).trans (H.k.2 k m hk).1, (A.i 60 k (by unfold WU; omega)).trans (H.k.2 k m hk).2.1, (A.i 61 k (by unfold WU; omega)).trans (H.k.2 k m hk).2.2⟩⟩, A.2.trans H.f⟩
theorem RR.kept {ms : List hb_Ms} (H : RR s t) (A : ag WK t t') (R : rkp t' ms) : RR (tM s 3 ms) t' := ⟨fun c hc => (A.i 22 c (by unfold WK; omega)).trans (H.c0 c hc), fun c hc => (A.i 36 c (by unfold WK; omega)).trans (H.c1 c hc), fun c hc => (A.i 31 c (by unfold WK; omega)).trans (H.c2 c hc), fun c hc => (A.i 34 c (by unfold WK; omega)).trans (H.c3 c hc), fun c hc => (A.i 35 c (by unfold WK; omega)).trans (H.c5 c hc), fun c hc => (A.i 37 c (by unfold WK; omega)).trans (H.c6 c hc), fun c hc => (A.i 39 c (by unfold WK; omega)).trans (H.c7 c hc), fun c hc => (A.i 38 c (by unfold WK; omega)).trans (H.c8 c hc), fun c hc => (A.i 41 c (by unfold WK; omega)).trans (H.c9 c hc), fun c hc => (A.i 42 c (by unfold WK; omega)).trans (H.c10 c hc), fun c hc => (A.i 56 c (by unfold WK; omega)).trans (H.c11 c hc), fun c hc => (A.i 57 c (by unfold WK; omega)).trans (H.c12 c hc), fun c hc => (A.l 33 c (by unfold WK; omega)).trans (H.j0 c hc), fun c hc => (A.l 40 c (by unfold WK; omega)).trans (H.j1 c hc), fun c hc i hi => (A.i 30 (9 * c + i) (by unfold WK; omega)).trans (H.h4 c hc i hi), fun c hc i hi => (A.i 55 (9 * c + i) (by unfold WK; omega)).trans (H.h13 c hc i hi), fun c hc i hi => (A.i 32 (100 * c + i) (by unfold WK; omega)).trans (H.x c hc i hi), fun l hl => ⟨(A.i 0 l (by unfold WK; omega)).trans (H.n l hl).1, fun k p hk => ((H.n l hl).2 k p hk).cg (fun f h1 h2 => A.1 f _ (by unfold WK; omega))⟩, fun c hc => ⟨(A.i 23 c (by unfold WK; omega)).trans (H.p c hc).1, fun k x hk => ((H.p c hc).2 k x hk).cg (fun f h1 h2 => A.1 f _ (by unfold WK; omega))⟩, fun c hc => ⟨(A.i 43 c (by unfold WK; omega)).trans (H.b c hc).1, fun k x hk => ((H.b c hc).2 k x hk).cg (fun f h1 h2 => A.1 f _ (by unfold WK; omega))⟩, fun c' hc' => by
  have e : sM (tM s 3 ms) c' = sM s c' := by simp only [sM, tM]; exact va_up_ne _ _ (by omega)
  rw [e]
  exact ⟨(A.i 47 c' (by unfold WK; omega)).trans (H.u c' hc').1, (A.i 48 c' (by unfold WK; omega)).trans (H.u c' hc').2.1, fun k x hk => ⟨((H.u c' hc').2.2.1 k x hk).1.cg (fun f h1 h2 => A.1 f _ (by unfold WK; omega)), (A.i 53 _ (by unfold WK; omega)).trans ((H.u c' hc').2.2.1 k x hk).2.1, (A.i 54 _ (by unfold WK; omega)).trans ((H.u c' hc').2.2.1 k x hk).2.2⟩, fun k m hk => ((H.u c' hc').2.2.2 k m hk).cg (fun f h1 h2 => A.1 f _ (by unfold WK; omega))⟩, by rw [sM_tM]; exact R, A.2.trans H.f⟩
theorem RR.h4w {v : Int32} (H : RR s t) (A : ag (WH 30 c) t t') (K : t'.2.2.1 58 = t.2.2.1 58) (R : rhd t' 30 c v) : RR (tI s 4 c v) t' := ⟨fun c hc => (A.i 22 c (by unfold WH; omega)).trans (H.c0 c hc), fun c hc => (A.i 36 c (by unfold WH; omega)).trans (H.c1 c hc), fun c hc => (A.i 31 c (by unfold WH; omega)).trans (H.c2 c hc), fun c hc => (A.i 34 c (by unfold WH; omega)).trans (H.c3 c hc), fun c hc => (A.i 35 c (by unfold WH; omega)).trans (H.c5 c hc), fun c hc => (A.i 37 c (by unfold WH; omega)).trans (H.c6 c hc), fun c hc => (A.i 39 c (by unfold WH; omega)).trans (H.c7 c hc), fun c hc => (A.i 38 c (by unfold WH; omega)).trans (H.c8 c hc), fun c hc => (A.i 41 c (by unfold WH; omega)).trans (H.c9 c hc), fun c hc => (A.i 42 c (by unfold WH; omega)).trans (H.c10 c hc), fun c hc => (A.i 56 c (by unfold WH; omega)).trans (H.c11 c hc), fun c hc => (A.i 57 c (by unfold WH; omega)).trans (H.c12 c hc), fun c hc => (A.l 33 c (by unfold WH; omega)).trans (H.j0 c hc), fun c hc => (A.l 40 c (by unfold WH; omega)).trans (H.j1 c hc), fun c' hc' => by
  by_cases e : c' = c
  · subst e
    have e1 : sI (tI s 4 c' v) 4 c' = v := by simp [st_a]
    rw [e1]; exact R
  · have e1 : sI (tI s 4 c v) 4 c' = sI s 4 c' := by simp [st_a, e]
    rw [e1]
    exact fun i hi => (A.i 30 (9 * c' + i) (by unfold WH; omega)).trans (H.h4 c' hc' i hi), fun c hc i hi => (A.i 55 (9 * c + i) (by unfold WH; omega)).trans (H.h13 c hc i hi), fun c hc i hi => (A.i 32 (100 * c + i) (by unfold WH; omega)).trans (H.x c hc i hi), fun l hl => ⟨(A.i 0 l (by unfold WH; omega)).trans (H.n l hl).1, fun k p hk => ((H.n l hl).2 k p hk).cg (fun f h1 h2 => A.1 f _ (by unfold WH; omega))⟩, fun c hc => ⟨(A.i 23 c (by unfold WH; omega)).trans (H.p c hc).1, fun k x hk => ((H.p c hc).2 k x hk).cg (fun f h1 h2 => A.1 f _ (by unfold WH; omega))⟩, fun c hc => ⟨(A.i 43 c (by unfold WH; omega)).trans (H.b c hc).1, fun k x hk => ((H.b c hc).2 k x hk).cg (fun f h1 h2 => A.1 f _ (by unfold WH; omega))⟩, fun c hc => ⟨(A.i 47 c (by unfold WH; omega)).trans (H.u c hc).1, (A.i 48 c (by unfold WH; omega)).trans (H.u c hc).2.1, fun k x hk => ⟨((H.u c hc).2.2.1 k x hk).1.cg (fun f h1 h2 => A.1 f _ (by unfold WH; omega)), (A.i 53 _ (by unfold WH; omega)).trans ((H.u c hc).2.2.1 k x hk).2.1, (A.i 54 _ (by unfold WH; omega)).trans ((H.u c hc).2.2.1 k x hk).2.2⟩, fun k m hk => ((H.u c hc).2.2.2 k m hk).cg (fun f h1 h2 => A.1 f _ (by unfold WH; omega))⟩, ⟨K.trans H.k.1, fun k m hk => ⟨(A.l 59 k (by unfold WH; omega)).trans (H.k.2 k m hk).1, (A.i 60 k (by unfold WH; omega)).trans (H.k.2 k m hk).2.1, (A.i 61 k (by unfold WH; omega)).trans (H.k.2 k m hk).2.2⟩⟩, A.2.trans H.f⟩
theorem RR.h13w {v : Int32} (H : RR s t) (A : ag (WH 55 c) t t') (K : t'.2.2.1 58 = t.2.2.1 58) (R : rhd t' 55 c v) : RR (tI s 13 c v) t' := ⟨fun c hc => (A.i 22 c (by unfold WH; omega)).trans (H.c0 c hc), fun c hc => (A.i 36 c (by unfold WH; omega)).trans (H.c1 c hc), fun c hc => (A.i 31 c (by unfold WH; omega)).trans (H.c2 c hc), fun c hc => (A.i 34 c (by unfold WH; omega)).trans (H.c3 c hc), fun c hc => (A.i 35 c (by unfold WH; omega)).trans (H.c5 c hc), fun c hc => (A.i 37 c (by unfold WH; omega)).trans (H.c6 c hc), fun c hc => (A.i 39 c (by unfold WH; omega)).trans (H.c7 c hc), fun c hc => (A.i 38 c (by unfold WH; omega)).trans (H.c8 c hc), fun c hc => (A.i 41 c (by unfold WH; omega)).trans (H.c9 c hc), fun c hc => (A.i 42 c (by unfold WH; omega)).trans (H.c10 c hc), fun c hc => (A.i 56 c (by unfold WH; omega)).trans (H.c11 c hc), fun c hc => (A.i 57 c (by unfold WH; omega)).trans (H.c12 c hc), fun c hc => (A.l 33 c (by unfold WH; omega)).trans (H.j0 c hc), fun c hc => (A.l 40 c (by unfold WH; omega)).trans (H.j1 c hc), fun c hc i hi => (A.i 30 (9 * c + i) (by unfold WH; omega)).trans (H.h4 c hc i hi), fun c' hc' => by
  by_cases e : c' = c
  · subst e
    have e1 : sI (tI s 13 c' v) 13 c' = v := by simp [st_a]
    rw [e1]; exact R
  · have e1 : sI (tI s 13 c v) 13 c' = sI s 13 c' := by simp [st_a, e]
    rw [e1]
    exact fun i hi => (A.i 55 (9 * c' + i) (by unfold WH; omega)).trans (H.h13 c' hc' i hi), fun c hc i hi => (A.i 32 (100 * c + i) (by unfold WH; omega)).trans (H.x c hc i hi), fun l hl => ⟨(A.i 0 l (by unfold WH; omega)).trans (H.n l hl).1, fun k p hk => ((H.n l hl).2 k p hk).cg (fun f h1 h2 => A.1 f _ (by unfold WH; omega))⟩, fun c hc => ⟨(A.i 23 c (by unfold WH; omega)).trans (H.p c hc).1, fun k x hk => ((H.p c hc).2 k x hk).cg (fun f h1 h2 => A.1 f _ (by unfold WH; omega))⟩, fun c hc => ⟨(A.i 43 c (by unfold WH; omega)).trans (H.b c hc).1, fun k x hk => ((H.b c hc).2 k x hk).cg (fun f h1 h2 => A.1 f _ (by unfold WH; omega))⟩, fun c hc => ⟨(A.i 47 c (by unfold WH; omega)).trans (H.u c hc).1, (A.i 48 c (by unfold WH; omega)).trans (H.u c hc).2.1, fun k x hk => ⟨((H.u c hc).2.2.1 k x hk).1.cg (fun f h1 h2 => A.1 f _ (by unfold WH; omega)), (A.i 53 _ (by unfold WH; omega)).trans ((H.u c hc).2.2.1 k x hk).2.1, (A.i 54 _ (by unfold WH; omega)).trans ((H.u c hc).2.2.1 k x hk).2.2⟩, fun k m hk => ((H.u c hc).2.2.2 k m hk).cg (fun f h1 h2 => A.1 f _ (by unfold WH; omega))⟩, ⟨K.trans H.k.1, fun k m hk => ⟨(A.l 59 k (by unfold WH; omega)).trans (H.k.2 k m hk).1, (A.i 60 k (by unfold WH; omega)).trans (H.k.2 k m hk).2.1, (A.i 61 k (by unfold WH; omega)).trans (H.k.2 k m hk).2.2⟩⟩, A.2.trans H.f⟩
end RB
