/-! The reference's client: what it gets (laid by wip/whole/p99a.py). -/
section LP
theorem tI_id {s : hb_S} {k c : Nat} {v : Int32} (h : v = sI s k c) : tI s k c v = s := by
  subst h
  have : hb_u2 s.1 k c (sI s k c) = s.1 := by
    funext a b
    unfold hb_u2
    split
    · rename_i q; rw [q.1, q.2]
    · rfl
  simp only [tI, this]
theorem tI_tI (s : hb_S) (k c : Nat) (v w : Int32) : tI (tI s k c v) k c w = tI s k c w := by
  have : hb_u2 (hb_u2 s.1 k c v) k c w = hb_u2 s.1 k c w := by
    funext a b
    unfold hb_u2
    split
    · rfl
    · rfl
  simp only [tI, this]
theorem set_mid {α : Type} (A B : List α) (x y : α) : (A ++ x :: B).set A.length y = A ++ y :: B := by simp
theorem fin_one : ∀ (ps : List hb_Pa) (k : Nat) (x : hb_Pa) (q st : Int32), dst ps → ps[k]? = some x → ¬ x.2.2 = 0 → pa_fin ps x.2.2 q st = if x.1.2.2.1 = q ∧ x.2.1 = st then ps.eraseIdx k else ps := by
  intro ps
  induction ps with
  | nil => intro k x q st _ h; simp at h
  | cons a r ih =>
    intro k x q st d hk h0
    unfold dst at d
    rw [List.pairwise_cons] at d
    cases k with
    | zero =>
      simp at hk; subst hk
      have hr : pa_fin r a.2.2 q st = r := by
        unfold pa_fin
        refine List.filter_eq_self.mpr (fun y hy => ?_)
        have : pa_fm a.2.2 q st y = false := decide_eq_false (fun e => (d.1 y hy).elim h0 (fun g => g e.1.symm))
        rw [this]; rfl
      unfold pa_fin at hr ⊢
      rw [List.filter_cons, hr]
      by_cases e : a.1.2.2.1 = q ∧ a.2.1 = st
      · rw [if_pos e, if_neg (by have : pa_fm a.2.2 q st a = true := decide_eq_true ⟨rfl, e.1, e.2⟩
                                 rw [this]; decide)]; rfl
      · rw [if_neg e, if_pos (by have : pa_fm a.2.2 q st a = false := decide_eq_false (fun g => e g.2)
                                 rw [this]; rfl)]
    | succ k =>
      rw [List.getElem?_cons_succ] at hk
      have hm := List.mem_of_getElem? hk
      have hne : ¬ a.2.2 = x.2.2 := by
        rcases d.1 x hm with g | g
        · rw [g]; exact fun q => h0 q.symm
        · exact g
      have := ih k x q st d.2 hk h0
      unfold pa_fin at this ⊢
      rw [List.filter_cons, if_pos (by have : pa_fm x.2.2 q st a = false := decide_eq_false (fun g => hne g.1)
                                       rw [this]; rfl), this]
      split <;> rfl
theorem fin_none {ps : List hb_Pa} {id q st : Int32} (h : ∀ x, x ∈ ps → ¬ (¬ x.2.1 = 0 ∧ x.2.2 = id)) (hs : ¬ st = 0) : pa_fin ps id q st = ps := by
  unfold pa_fin
  refine List.filter_eq_self.mpr (fun y hy => ?_)
  have : pa_fm id q st y = false := decide_eq_false (fun e => h y hy ⟨by rw [e.2.2]; exact hs, e.1⟩)
  rw [this]; rfl
theorem rel_one : ∀ (ps : List hb_Pa) (k : Nat) (x : hb_Pa), dst ps → ps[k]? = some x → ¬ x.2.2 = 0 → ¬ x.2.1 = 0 → pa_rel ps x.2.2 = if x.1.2.2.1 = 2 then (ps.set k (x.1, 2, x.2.2), true) else (ps, false) := by
  have nn : ∀ (r : List hb_Pa) (id : Int32), (∀ y, y ∈ r → ¬ y.2.2 = id) → pa_rel r id = (r, false) := by
    intro r
    induction r with
    | nil => intro id _; rfl
    | cons a r ih =>
      intro id h
      rw [pa_rel, if_neg (fun e => h a List.mem_cons_self e.1), ih id (fun y hy => h y (List.mem_cons_of_mem _ hy))]
  intro ps
  induction ps with
  | nil => intro k x _ h; simp at h
  | cons a r ih =>
    intro k x d hk h0 hs
    unfold dst at d
    rw [List.pairwise_cons] at d
    cases k with
    | zero =>
      simp at hk; subst hk
      rw [pa_rel]
      by_cases e : a.1.2.2.1 = 2
      · rw [if_pos ⟨rfl, e, hs⟩, if_pos e]; rfl
      · rw [if_neg (fun g => e g.2.1), if_neg e, nn r a.2.2 (fun y hy g => (d.1 y hy).elim h0 (fun w => w g.symm))]
    | succ k =>
      rw [List.getElem?_cons_succ] at hk
      have hm := List.mem_of_getElem? hk
      have hne : ¬ a.2.2 = x.2.2 := by
        rcases d.1 x hm with g | g
        · rw [g]; exact fun q => h0 q.symm
        · exact g
      rw [pa_rel, if_neg (fun g => hne g.1), ih k x d.2 hk h0 hs]
      split <;> rfl
theorem rel_none : ∀ {ps : List hb_Pa} {id : Int32}, (∀ x, x ∈ ps → ¬ (¬ x.2.1 = 0 ∧ x.2.2 = id)) → pa_rel ps id = (ps, false) := by
  intro ps
  induction ps with
  | nil => intro id _; rfl
  | cons a r ih =>
    intro id h
    rw [pa_rel, if_neg (fun e => h a List.mem_cons_self ⟨e.2.2, e.1⟩), ih (fun y hy => h y (List.mem_cons_of_mem _ hy))]
theorem ix_none {α : Type} {P : α → Bool} : ∀ {l : List α} {i : Nat}, ix_of P l i = none → ∀ x, x ∈ l → P x = false := by
  intro l
  induction l with
  | nil => intro i _ x hx; cases hx
  | cons a r ih =>
    intro i h x hx
    rw [ix_of] at h
    split at h
    · cases h
    · rename_i q
      rcases List.mem_cons.mp hx with rfl | hx
      · cases e : P x with
        | true => exact absurd e q
        | false => rfl
      · exact ih h x hx
theorem ix_0 {α : Type} {P : α → Bool} {l : List α} {j : Nat} (h : ix_of P l 0 = some j) : ∃ x, l[j]? = some x ∧ P x = true := by
  obtain ⟨x, _, h2, h3⟩ := ix_of_some h
  exact ⟨x, by simpa using h2, h3⟩
theorem okS_cp {ps : List hb_Pa} {i : Nat} {a : hb_Pa} (hS : okS ps) (hi : ps[i]? = some a) (ha : a.2.1 = 0) (hu : pa_uw ps < 2) : okS (ps.set i (a.1, 1, nI (pa_id ps))) ∧ pa_uw (ps.set i (a.1, 1, nI (pa_id ps))) = pa_uw ps + 1 := by
  have hm := List.mem_of_getElem? hi
  have hid := pa_id_ok (fun x hx => (hS.2.1 x hx).i) (by rw [oP_fl hS.2.1]; omega)
  have hu2 : pa_uw (ps.set i (a.1, 1, nI (pa_id ps))) = pa_uw ps + 1 := by
    have := cP_set (fun x : hb_Pa => decide (¬ x.2.1 = 0)) _ _ _ (a.1, 1, nI (pa_id ps)) hi
    rw [uw_cP, uw_cP]
    simp [ha] at this
    simp; exact this
  refine ⟨⟨by rw [List.length_set]; exact hS.1, fun z hz => ?_, dst_set _ _ _ _ hi hid.2.2 hS.2.2.1, by rw [hu2]; omega⟩, hu2⟩
  rcases List.mem_or_eq_of_mem_set hz with hz | rfl
  · exact hS.2.1 z hz
  · exact ⟨(hS.2.1 a hm).1, Or.inr ⟨Or.inl rfl, ⟨_, hid.1, by omega, rfl⟩⟩⟩
end LP
def Wx (c j f i : Nat) : Prop := f = 32 ∧ i = 100 * c + j
theorem RR.inb {s : hb_S} {t : rf_S} {c j : Nat} {v : Int32} (hj : j < 100) (H : RR s t) : RR (tX s c (va_up (sX s c) j v)) (uI t 32 (100 * c + j) v) := by
  have A : ag (Wx c j) t (uI t 32 (100 * c + j) v) := ag.rf.wI v ⟨rfl, rfl⟩
  have K : (uI t 32 (100 * c + j) v).2.2.1 58 = t.2.2.1 58 := rfl
  exact ⟨fun c hc => (A.i 22 c (by unfold Wx; omega)).trans (H.c0 c hc), fun c hc => (A.i 36 c (by unfold Wx; omega)).trans (H.c1 c hc), fun c hc => (A.i 31 c (by unfold Wx; omega)).trans (H.c2 c hc), fun c hc => (A.i 34 c (by unfold Wx; omega)).trans (H.c3 c hc), fun c hc => (A.i 35 c (by unfold Wx; omega)).trans (H.c5 c hc), fun c hc => (A.i 37 c (by unfold Wx; omega)).trans (H.c6 c hc), fun c hc => (A.i 39 c (by unfold Wx; omega)).trans (H.c7 c hc), fun c hc => (A.i 38 c (by unfold Wx; omega)).trans (H.c8 c hc), fun c hc => (A.i 41 c (by unfold Wx; omega)).trans (H.c9 c hc), fun c hc => (A.i 42 c (by unfold Wx; omega)).trans (H.c10 c hc), fun c hc => (A.i 56 c (by unfold Wx; omega)).trans (H.c11 c hc), fun c hc => (A.i 57 c (by unfold Wx; omega)).trans (H.c12 c hc), fun c hc => (A.l 33 c (by unfold Wx; omega)).trans (H.j0 c hc), fun c hc => (A.l 40 c (by unfold Wx; omega)).trans (H.j1 c hc), fun c hc i hi => (A.i 30 (9 * c + i) (by unfold Wx; omega)).trans (H.h4 c hc i hi), fun c hc i hi => (A.i 55 (9 * c + i) (by unfold Wx; omega)).trans (H.h13 c hc i hi), fun c' hc' i' hi' => by
    rw [uI_1]
    by_cases e : c' = c
    · subst e
      have e1 : sX (tX s c' (va_up (sX s c') j v)) c' = va_up (sX s c') j v := by simp [st_a]
      rw [e1]
      by_cases e2 : i' = j
      · subst e2; rw [va_up_self, if_pos ⟨rfl, rfl⟩]
      · rw [va_up_ne _ _ e2, if_neg (by omega)]; exact H.x c' hc' i' hi'
    · have e1 : sX (tX s c (va_up (sX s c) j v)) c' = sX s c' := by simp [st_a, e]
      rw [e1, if_neg (by omega)]; exact H.x c' hc' i' hi', fun l hl => ⟨(A.i 0 l (by unfold Wx; omega)).trans (H.n l hl).1, fun k p hk => ((H.n l hl).2 k p hk).cg (fun f h1 h2 => A.1 f _ (by unfold Wx; omega))⟩, fun c hc => ⟨(A.i 23 c (by unfold Wx; omega)).trans (H.p c hc).1, fun k x hk => ((H.p c hc).2 k x hk).cg (fun f h1 h2 => A.1 f _ (by unfold Wx; omega))⟩, fun c hc => ⟨(A.i 43 c (by unfold Wx; omega)).trans (H.b c hc).1, fun k x hk => ((H.b c hc).2 k x hk).cg (fun f h1 h2 => A.1 f _ (by unfold Wx; omega))⟩, fun c hc => ⟨(A.i 47 c (by unfold Wx; omega)).trans (H.u c hc).1, (A.i 48 c (by unfold Wx; omega)).trans (H.u c hc).2.1, fun k x hk => ⟨((H.u c hc).2.2.1 k x hk).1.cg (fun f h1 h2 => A.1 f _ (by unfold Wx; omega)), (A.i 53 _ (by unfold Wx; omega)).trans ((H.u c hc).2.2.1 k x hk).2.1, (A.i 54 _ (by unfold Wx; omega)).trans ((H.u c hc).2.2.1 k x hk).2.2⟩, fun k m hk => ((H.u c hc).2.2.2 k m hk).cg (fun f h1 h2 => A.1 f _ (by unfold Wx; omega))⟩, ⟨K.trans H.k.1, fun k m hk => ⟨(A.l 59 k (by unfold Wx; omega)).trans (H.k.2 k m hk).1, (A.i 60 k (by unfold Wx; omega)).trans (H.k.2 k m hk).2.1, (A.i 61 k (by unfold Wx; omega)).trans (H.k.2 k m hk).2.2⟩⟩, A.2.trans H.f⟩
section ZE
variable {z : Nat × Nat} {m0 : Nat} {s : hb_S} {p : hb_Pk} {t : rf_S} {h : ev_H} {Q : ev_O → Prop} {c l : Nat} {C : ev_C} {pc nx : Nat} {L : ev_L} {r : List Value} {i : Int32}
theorem ev_W.p32 {v : Int32} {j : Nat} (R : zR z m0 s p t h) (hc : c < 3) (hj : j < 100) (hi : i = nI (100 * c + j)) (hf : ev_find C pc = some (ev_fn (ev_iast nx))) (k : ∀ t' h', zR z m0 (tX s c (va_up (sX s c) j v)) p t' h' → rf_E m0 h h' → ev_W C (nx, L, r, h') Q) : ev_W C (pc, L, .int v :: .int i :: .ref (m0 + (1 + rf_r 32)) :: r, h) Q := ev_W.si 32 R.1 rfl hi (show 100 * c + j < 300 by omega) hf (fun h' P E => k _ h' ⟨P, R.2.1.inb hj, R.2.2.1, R.2.2.2⟩ E)
theorem ev_W.p30e {v : Int32} {j : Nat} (R : zR z m0 s p t h) (hc : c < 3) (hj : j < 9) (hv : v = zb (hbit (sI s 4 c) (nI j))) (hi : i = nI (9 * c + j)) (hf : ev_find C pc = some (ev_fn (ev_zast nx))) (k : ∀ t' h', zR z m0 s p t' h' → rf_E m0 h h' → ev_W C (nx, L, r, h') Q) : ev_W C (pc, L, .int v :: .int i :: .ref (m0 + (1 + rf_r 30)) :: r, h) Q := by
  refine ev_W.sz 30 R.1 rfl (by rw [hv]; exact zb_01 _) hi (show 9 * c + j < 27 by omega) hf (fun h' P E => k _ h' ⟨P, ?_, R.2.2.1, R.2.2.2⟩ E)
  have e : tI s 4 c (sI s 4 c) = s := tI_id rfl
  rw [← e]
  refine R.2.1.h4w (c := c) (ag.rf.wI v (by unfold WH; omega)) rfl (fun n hn => ?_)
  rw [uI_1]
  by_cases q : n = j
  · subst q; rw [if_pos ⟨rfl, rfl⟩, hv]
  · rw [if_neg (by omega)]; exact R.2.1.h4 c hc n hn
theorem ev_W.p29s {v : Int32} {j : Nat} {x : hb_Pa} (R : zR z m0 s p t h) (hc : c < 3) (hx : (sP s c)[j]? = some x) (h0 : x.2.1 = 0) (hi : i = nI (4 * c + j)) (hf : ev_find C pc = some (ev_fn (ev_iast nx))) (k : ∀ t' h', zR z m0 s p t' h' → rf_E m0 h h' → t'.1 29 (4 * c + j) = v → ev_W C (nx, L, r, h') Q) : ev_W C (pc, L, .int v :: .int i :: .ref (m0 + (1 + rf_r 29)) :: r, h) Q := by
  have h1 := (List.getElem?_eq_some_iff.mp hx).1
  have h2 := R.2.2.2.2.1 c hc
  refine ev_W.si 29 R.1 rfl hi (show 4 * c + j < 12 by omega) hf (fun h' P E => k _ h' ⟨P, ?_, R.2.2.1, R.2.2.2⟩ E (by rw [uI_1, if_pos ⟨rfl, rfl⟩]))
  have e : tP s c (sP s c) = s := tP_id rfl
  rw [← e]
  refine R.2.1.store hc R.2.2.2 (ag.rf.wI v (by unfold WP; omega)) rfl ⟨?_, fun n y hy => ?_⟩
  · rw [uI_1, if_neg (by omega)]; exact (R.2.1.p c hc).1
  · obtain ⟨a1, a2, a3, a4, a5, a6⟩ := (R.2.1.p c hc).2 n y hy
    refine ⟨a1, ?_, ?_, ?_, ?_, fun q => ?_⟩
    · rw [uI_1, if_neg (by omega)]; exact a2
    · rw [uI_1, if_neg (by omega)]; exact a3
    · rw [uI_1, if_neg (by omega)]; exact a4
    · rw [uI_1, if_neg (by omega)]; exact a5
    · have : ¬ n = j := fun e => by subst e; rw [hx] at hy; cases hy; exact q h0
      rw [uI_1, if_neg (by omega)]; exact a6 q
theorem ev_W.p28s {v id : Int32} {j : Nat} {x : hb_Pa} (R : zR z m0 s p t h) (hc : c < 3) (hx : (sP s c)[j]? = some x) (hid : ¬ v = 0 → t.1 29 (4 * c + j) = id) (hi : i = nI (4 * c + j)) (hf : ev_find C pc = some (ev_fn (ev_iast nx))) (k : ∀ t' h', zR z m0 (tP s c ((sP s c).set j (x.1, v, id))) p t' h' → rf_E m0 h h' → ev_W C (nx, L, r, h') Q) : ev_W C (pc, L, .int v :: .int i :: .ref (m0 + (1 + rf_r 28)) :: r, h) Q := by
  have h1 := (List.getElem?_eq_some_iff.mp hx).1
  have h2 := R.2.2.2.2.1 c hc
  refine ev_W.si 28 R.1 rfl hi (show 4 * c + j < 12 by omega) hf (fun h' P E => k _ h' ⟨P, ?_, R.2.2.1, R.2.2.2.dP hc (by rw [List.length_set]; exact h2)⟩ E)
  refine R.2.1.store hc R.2.2.2 (ag.rf.wI v (by unfold WP; omega)) rfl ⟨?_, fun n y hy => ?_⟩
  · rw [uI_1, if_neg (by omega), List.length_set]; exact (R.2.1.p c hc).1
  · by_cases e : n = j
    · subst e
      rw [List.getElem?_set_self h1] at hy
      cases hy
      obtain ⟨a1, a2, a3, a4, a5, a6⟩ := (R.2.1.p c hc).2 n x hx
      refine ⟨a1, ?_, ?_, ?_, ?_, fun q => ?_⟩
      · rw [uI_1, if_neg (by omega)]; exact a2
      · rw [uI_1, if_neg (by omega)]; exact a3
      · rw [uI_1, if_neg (by omega)]; exact a4
      · rw [uI_1, if_pos ⟨rfl, rfl⟩]
      · rw [uI_1, if_neg (by omega)]; exact hid q
    · rw [List.getElem?_set_ne (fun q => e q.symm)] at hy
      refine rstP.cg (t := t) (fun f h3 h4 => ⟨?_, rfl⟩) ((R.2.1.p c hc).2 n y hy)
      rw [uI_1, if_neg (by omega)]
theorem zR.id {j : Nat} {x : hb_Pa} (R : zR z m0 s p t h) (hc : c < 3) (hx : (sP s c)[j]? = some x) (h0 : ¬ x.2.1 = 0) : t.1 29 (4 * c + j) = x.2.2 := ((R.2.1.p c hc).2 j x hx).2.2.2.2.2 h0
end ZE
section ZF
variable {z : Nat × Nat} {m0 : Nat} {s : hb_S} {p : hb_Pk} {t : rf_S} {h : ev_H} {Q : ev_O → Prop} {c l : Nat}
theorem cpF_n {n i c : Nat} {s : hb_S} {u : Nat} {x : hb_Pa} (hx : (sP s c)[i]? = some x) : M_cpF (n + 1) i s c u = if sI s 0 c = 2 ∧ u < 2 ∧ x.2.1 = 0 then M_cpF n (i + 1) (M_cp1 s c i x) c (u + 1) else M_cpF n (i + 1) s c u := by
  rw [M_cpF, hx]
theorem sp_zpc_loop (hc : c < 3) : ∀ (n i : Nat) (s : hb_S) (t : rf_S) (h : ev_H) (y : Option Value), zR z m0 s p t h → okS (sP s c) → i + n = (sP s c).length → (sN s (2 * c)).length + n ≤ 30 → (∀ t' h', zR z m0 (M_cpF n i s c (pa_uw (sP s c))) p t' h' → rf_E m0 h h' → Q (none, h')) → ev_W (mk_Z_pumpClient z) (2, [some (.ref m0), some (.int (nI c)), some (.int (nI i)), y], [], h) Q := by
  intro n
  induction n with
  | zero =>
    intro i s t h y R hS hi hu k
    have h4 := hS.1
    refine ev_W.fn rfl rfl ?_
    refine ev_W.fn rfl rfl ?_
    refine ev_W.obj rfl R.ob rfl ?_
    refine ev_W.fn rfl rfl ?_
    refine ev_W.g23 R hc rfl rfl ?_
    refine ev_W.brT rfl rfl (nI_le (by omega) (by omega)) ?_
    refine ev_W.ret rfl rfl ?_
    exact k _ _ R rf_E.rf
  | succ n ih =>
    intro i s t h y R hS hi hu k
    have h4 := hS.1
    have hul := pa_uw_le (sP s c)
    obtain ⟨x, hx⟩ : ∃ x, (sP s c)[i]? = some x := ⟨_, List.getElem?_eq_getElem (by omega)⟩
    rw [cpF_n hx] at k
    have skip : ¬ (sI s 0 c = 2 ∧ pa_uw (sP s c) < 2 ∧ x.2.1 = 0) → ∀ y : Option Value, ev_W (mk_Z_pumpClient z) (71, [some (.ref m0), some (.int (nI c)), some (.int (nI i)), y], [], h) Q := by
      intro hn y
      rw [if_neg hn] at k
      refine ev_W.fn rfl rfl ?_
      refine ev_W.fn rfl rfl ?_
      have nx := ih (i + 1) s t h y R hS (by omega) (by omega) k
      rw [← nI_1] at nx
      exact nx
    refine ev_W.fn rfl rfl ?_
    refine ev_W.fn rfl rfl ?_
    refine ev_W.obj rfl R.ob rfl ?_
    refine ev_W.fn rfl rfl ?_
    refine ev_W.g23 R hc rfl rfl ?_
    refine ev_W.brF rfl rfl (nI_ge (by omega) (by omega)) ?_
    refine ev_W.fn rfl rfl ?_
    refine ev_W.fn rfl rfl ?_
    refine ev_W.fn rfl rfl ?_
    refine ev_W.fn rfl rfl ?_
    refine ev_W.fn rfl rfl ?_
    refine ev_W.fn rfl rfl ?_
    refine ev_W.fn rfl rfl ?_
    refine ev_W.obj rfl R.ob rfl ?_
    refine ev_W.fn rfl rfl ?_
    refine ev_W.g22 R hc rfl rfl ?_
    refine ev_W.fn rfl rfl ?_
    refine ev_W.br rfl rfl (fun h1 => ?_) (fun h1 => ?_)
    · exact skip (fun q => h1 q.1) _
    · have h1 := Decidable.not_not.mp h1
      refine ev_W.fn rfl rfl ?_
      refine ev_W.obj rfl R.ob rfl ?_
      refine ev_W.fn rfl rfl ?_
      refine ev_W.g28 R hc hx (zma 4 c i) rfl ?_
      refine ev_W.br rfl rfl (fun h2 => ?_) (fun h2 => ?_)
      · exact skip (fun q => h2 q.2.2) _
      · have h2 := Decidable.not_not.mp h2
        refine ev_W.fn rfl rfl ?_
        refine ev_W.fn rfl rfl ?_
        refine ev_W.clR rfl rfl rfl rfl rfl R.ob ?_
        refine sp_Z_underWay R hc hS ?_
        refine ev_W.fn rfl rfl ?_
        refine ev_W.br rfl rfl (fun h3 => ?_) (fun h3 => ?_)
        · exact skip (fun q => by have := (nI_leI (a := 2) (by decide) (by omega)).mp h3; omega) _
        · have h3 : pa_uw (sP s c) < 2 := Nat.lt_of_not_le (fun q => h3 (nI_le (a := 2) q (by omega)))
          rw [if_pos ⟨h1, h3, h2⟩] at k
          have hcp := okS_cp hS hx h2 h3
          have hx2 : (sP (tP s c ((sP s c).set i (x.1, 1, nI (pa_id (sP s c))))) c)[i]? = some (x.1, 1, nI (pa_id (sP s c))) := by rw [sP_tP]; exact List.getElem?_set_self (by omega)
          refine ev_W.fn rfl rfl ?_
          refine ev_W.obj rfl R.ob rfl ?_
          refine ev_W.fn rfl rfl ?_
          refine ev_W.fn rfl rfl ?_
          refine ev_W.fn rfl rfl ?_
          refine ev_W.clR rfl rfl rfl rfl rfl R.ob ?_
          refine sp_Z_freeId R hc hS ?_
          refine ev_W.p29s R hc hx h2 (zma 4 c i) rfl (fun t1 u1 R1 E1 e29 => ?_)
          refine ev_W.fn rfl rfl ?_
          refine ev_W.obj rfl R1.ob rfl ?_
          refine ev_W.fn rfl rfl ?_
          refine ev_W.fn rfl rfl ?_
          refine ev_W.p28s R1 (id := nI (pa_id (sP s c))) hc hx (fun _ => e29) (zma 4 c i) rfl (fun t2 u2 R2 E2 => ?_)
          refine ev_W.fn rfl rfl ?_
          refine ev_W.fn rfl rfl ?_
          refine ev_W.fn rfl rfl ?_
          refine ev_W.fn rfl rfl ?_
          refine ev_W.clR rfl rfl rfl rfl rfl R2.ob ?_
          refine sp_Z_sendStored R2 (a := false) hc hx2 (by show ¬ (1 : Int32) = 0; decide) (zma 4 c i) (by show (sN s (2 * c)).length ≤ 30; omega) (fun t3 u3 R3 E3 => ?_)
          refine ev_W.fn rfl rfl ?_
          refine ev_W.fn rfl rfl ?_
          have e1 : sP (M_cp1 s c i x) c = (sP s c).set i (x.1, 1, nI (pa_id (sP s c))) := sP_tP _ _ _
          have e2 : (sN (M_cp1 s c i x) (2 * c)).length = (sN s (2 * c)).length + 1 := by
            have : sN (M_cp1 s c i x) (2 * c) = sN s (2 * c) ++ [M_pkt x.1 (nI (pa_id (sP s c))) false] := sN_tN _ _ _
            rw [this]; simp
          have nx := ih (i + 1) (M_cp1 s c i x) _ _ (some (.int (4 * nI c + nI i))) R3 (by rw [e1]; exact hcp.1) (by rw [e1, List.length_set]; omega) (by rw [e2]; omega) (fun t' h' R' E' => k t' h' (by rw [e1, hcp.2] at R'; exact R') (rf_E.tr ((E1.tr (E2.tr E3))) E'))
          rw [← nI_1] at nx
          exact nx
theorem sp_Z_pumpClient (R : zR z m0 s p t h) (hc : c < 3) (hS : okS (sP s c)) (hu : (sN s (2 * c)).length ≤ 26) (k : ∀ t' h', zR z m0 (M_cpump s c) p t' h' → rf_E m0 h h' → Q (none, h')) : ev_M (mf_Z_pumpClient z) [.ref m0, .int (nI c)] h Q := by
  have h4 := hS.1
  refine ev_M.go rfl rfl ?_
  refine ev_W.fn rfl rfl ?_
  refine ev_W.fn rfl rfl ?_
  exact sp_zpc_loop hc (sP s c).length 0 s t h _ R hS (Nat.zero_add _) (by omega) k
end ZF
