/-! What every state keeps: the invariant, first half (tried alone before: wip/whole/iv). -/

def q012 (q : Int32) : Prop := q = 0 ∨ q = 1 ∨ q = 2
def idr (x : Int32) : Prop := ∃ i, i < 8 ∧ x = nI i
def idp (x : Int32) : Prop := ∃ i, 0 < i ∧ i < 8 ∧ x = nI i
theorem idp.r {x : Int32} (h : idp x) : idr x := let ⟨i, _, h2, h3⟩ := h; ⟨i, h2, h3⟩
theorem idp.n0 {x : Int32} (h : idp x) : ¬ x = 0 := by
  obtain ⟨i, h1, h2, rfl⟩ := h
  exact fun e => by have := (nI_eq (b := 0) (by omega) (by decide)).mp e; omega
def oU (p : hb_Pk) : Prop := (p.1 = 1 ∨ p.1 = 3 ∨ p.1 = 6 ∨ p.1 = 4 ∨ p.1 = 5 ∨ p.1 = 7 ∨ p.1 = 8 ∨ p.1 = 10 ∨ p.1 = 12 ∨ p.1 = 14) ∧ (p.1 = 1 → (0 ≤ p.2.2.1 ∧ p.2.2.1 ≤ 50) ∧ p.2.2.2.2.2.2.2.1 ≤ 3 ∧ 0 ≤ p.2.2.2.2.2.2.2.2.1 ∧ (p.2.2.2.1 = 0 ∨ tpc p.2.2.2.1)) ∧ (p.1 = 3 → tpc p.2.2.2.1 ∧ q012 p.2.2.2.2.1 ∧ idr p.2.1) ∧ (p.1 = 8 → ftr p.2.2.2.1 ∧ q012 p.2.2.1) ∧ (p.1 = 10 → ftr p.2.2.2.1) ∧ (p.1 = 6 → idr p.2.1) ∧ (p.1 = 5 → idr p.2.1)
def oD (p : hb_Pk) : Prop := (p.1 = 2 ∨ p.1 = 3 ∨ p.1 = 6 ∨ p.1 = 4 ∨ p.1 = 5 ∨ p.1 = 7 ∨ p.1 = 9 ∨ p.1 = 11 ∨ p.1 = 13) ∧ (p.1 = 3 → q012 p.2.2.2.2.1 ∧ idr p.2.1) ∧ (p.1 = 6 → idr p.2.1) ∧ (p.1 = 5 → idr p.2.1)
def oM (m : hb_Ms) : Prop := tpc m.1 ∧ (m.2.2.1 = 1 ∨ m.2.2.1 = 2)
def oR (m : hb_Ms) : Prop := tpc m.1 ∧ q012 m.2.2.1
def oS (x : hb_Sb) : Prop := ftr x.1 ∧ q012 x.2.1
def oA (x : hb_Pa) : Prop := oM x.1 ∧ (x.2.1 = 1 ∨ (x.2.1 = 2 ∧ x.1.2.2.1 = 2)) ∧ idp x.2.2
def oP (x : hb_Pa) : Prop := oM x.1 ∧ ((x.2.1 = 0 ∧ x.2.2 = 0) ∨ ((x.2.1 = 1 ∨ (x.2.1 = 2 ∧ x.1.2.2.1 = 2)) ∧ idp x.2.2))
def dst (ps : List hb_Pa) : Prop := ps.Pairwise (fun x y => x.2.2 = 0 ∨ ¬ x.2.2 = y.2.2)
def okS (ps : List hb_Pa) : Prop := ps.length ≤ 4 ∧ (∀ x, x ∈ ps → oP x) ∧ dst ps ∧ pa_uw ps ≤ 2
def isC (p : hb_Pk) : Bool := decide (p.1 = 1)
def isK (p : hb_Pk) : Bool := decide (p.1 = 2)
def isU (i : Int32) (p : hb_Pk) : Bool := decide (p.1 = 3 ∧ p.2.2.2.2.1 = 2 ∧ p.2.1 = i)
def isR (i : Int32) (p : hb_Pk) : Bool := decide (p.1 = 5 ∧ p.2.1 = i)
def isS (i : Int32) (x : hb_Pa) : Bool := decide (x.2.1 = 1 ∧ x.1.2.2.1 = 2 ∧ x.2.2 = i)
-- the link's book: x and y are the packets in hand
def LK (x y : List hb_Pk) (s : hb_S) (c : Nat) : Prop :=
  (sI s 0 c = 0 → sN s (2 * c) = [] ∧ sI s 1 c = 0) ∧ (sI s 1 c = 0 → y ++ sN s (2 * c + 1) = [] ∧ ∀ p, p ∈ x ++ sN s (2 * c) → p.1 = 1) ∧
  ((x ++ sN s (2 * c)).countP isC + (y ++ sN s (2 * c + 1)).countP isK ≤ if sI s 0 c = 1 then 1 else 0) ∧
  (∀ i, (x ++ sN s (2 * c)).countP (isU i) + (y ++ sN s (2 * c + 1)).countP (isR i) ≤ (sP s c).countP (isS i)) ∧
  (sI s 0 c = 1 → ∀ i, (x ++ sN s (2 * c)).countP (isU i) + (y ++ sN s (2 * c + 1)).countP (isR i) = 0) ∧
  (¬ sI s 1 c = 0 → (x ++ sN s (2 * c)).countP isC = 0) ∧ (sI s 0 c = 2 → ¬ sI s 1 c = 0)
def K5 (s : hb_S) (c : Nat) : Prop := (∀ x, x ∈ sP s (3 + c) → oA x) ∧ dst (sP s (3 + c)) ∧ (∀ m, m ∈ sM s c → oM m) ∧ (∀ x, x ∈ sB s c → oS x) ∧ (sI s 10 c = 0 → sB s c = [])
def K7 (n : Nat) (s : hb_S) (c : Nat) : Prop := (sI s 5 c = 0 → sI s 1 c = 0) ∧ (0 ≤ sI s 8 c ∧ q012 (sI s 14 c) ∧ (sI s 8 c = 0 → sI s 7 c = 0)) ∧ (0 ≤ sI s 11 c ∧ sI s 11 c ≤ 50) ∧ (sI s 5 c = 0 → ¬ sI s 10 c = 0 → 1 ≤ sI s 12 c) ∧ (∃ k, k < 512 ∧ sI s 4 c = nI k) ∧ (∃ k, k < 512 ∧ sI s 13 c = nI k) ∧ (∃ k, k ≤ n ∧ sI s 2 c = nI k) ∧ (sJ s 0 c = 0 ∨ tpc (sJ s 0 c)) ∧ (sJ s 1 c = 0 ∨ tpc (sJ s 1 c)) ∧ (¬ sI s 1 c = 0 → ¬ sI s 10 c = 0)
def CI (D L n : Nat) (x y : List hb_Pk) (s : hb_S) (c : Nat) : Prop := ((∀ p, p ∈ sN s (2 * c) → oU p) ∧ (sN s (2 * c)).length ≤ L) ∧ (∀ p, p ∈ sN s (2 * c + 1) → oD p) ∧ LK x y s c ∧ okS (sP s c) ∧ K5 s c ∧ ba D s c ∧ K7 n s c
theorem CI.mono {D L n D' L' n' : Nat} {x y : List hb_Pk} {s : hb_S} {c : Nat} (H : CI D L n x y s c) (hd : D ≤ D') (hl : L ≤ L') (hn : n ≤ n') : CI D' L' n' x y s c := by
  obtain ⟨⟨a1, a2⟩, b, k, s4, k5, k6, c1, c2, c3, c4, c5, c6, ⟨k0, e1, e2⟩, c8, c9⟩ := H
  exact ⟨⟨a1, by omega⟩, b, k, s4, k5, k6.mono hd, c1, c2, c3, c4, c5, c6, ⟨k0, by omega, e2⟩, c8, c9⟩
theorem CI_fr {D L n c j : Nat} {x y : List hb_Pk} {s s' : hb_S} (F : fr c s s') (hj : j < 3) (hc : c < 3) (hn : j ≠ c) (H : CI D L n x y s j) : CI D L n x y s' j := by
  obtain ⟨f1, f2, f3, f4, f5, f6, f7⟩ := F
  have e1 : ∀ k, sI s' k j = sI s k j := fun k => f1 k j hn
  have e2 : ∀ k, sJ s' k j = sJ s k j := fun k => f2 k j hn
  have e4 : sN s' (2 * j) = sN s (2 * j) := f4 _ (by omega) (by omega)
  have e5 : sN s' (2 * j + 1) = sN s (2 * j + 1) := f4 _ (by omega) (by omega)
  have e6 : sP s' j = sP s j := f5 _ hn (by omega)
  have e7 : sP s' (3 + j) = sP s (3 + j) := f5 _ (by omega) (by omega)
  have e8 : sB s' j = sB s j := f6 _ hn
  have e9 : sM s' j = sM s j := f7 _ hn
  unfold CI LK K5 K7 ba at H ⊢
  simp only [e1, e2, e4, e5, e6, e7, e8, e9]
  exact H
theorem CI_ret {D L n j : Nat} {x y : List hb_Pk} {s : hb_S} (q : List hb_Ms) (hj : j < 3) (H : CI D L n x y s j) : CI D L n x y (tM s 3 q) j := by
  have e : sM (tM s 3 q) j = sM s j := by simp only [sM, tM]; exact va_up_ne _ _ (by omega)
  unfold CI LK K5 K7 ba at H ⊢
  simp only [e]
  exact H
theorem cP_app {α : Type} (f : α → Bool) (a : List α) (p : α) : (a ++ [p]).countP f = a.countP f + (if f p = true then 1 else 0) := by
  rw [List.countP_append, List.countP_singleton]
-- the broker sends
theorem CI_send {D L n c : Nat} {x y : List hb_Pk} {s : hb_S} {p : hb_Pk} (hp : oD p) (h2 : ¬ p.1 = 2) (h5 : ¬ p.1 = 5) (H : CI D L n x y s c) : CI (D + 1) L n x y (M_send s c p) c := by
  unfold M_send
  by_cases h : sI s 1 c = 0
  · rw [if_pos h]; exact H.mono (by omega) (by omega) (by omega)
  · rw [if_neg h]
    obtain ⟨a, b, ⟨l1, l2, l3, l4, l5, l6, l7⟩, s4, k5, k6, k7⟩ := H
    have e1 : sN (tN s (2 * c + 1) (sN s (2 * c + 1) ++ [p])) (2 * c + 1) = sN s (2 * c + 1) ++ [p] := sN_tN _ _ _
    have e0 : sN (tN s (2 * c + 1) (sN s (2 * c + 1) ++ [p])) (2 * c) = sN s (2 * c) := by simp only [sN, tN]; exact va_up_ne _ _ (by omega)
    have fK : isK p = false := decide_eq_false h2
    have fR : ∀ i, isR i p = false := fun i => decide_eq_false (fun q => h5 q.1)
    refine ⟨by rw [e0]; exact a, fun q hq => ?_, ⟨fun q => absurd (l1 q).2 h, fun q => absurd q h, ?_, ?_, ?_, ?_, l7⟩, s4, k5, ⟨k6.1, k6.2.1, ?_, k6.2.2.2⟩, k7⟩
    · rw [e1] at hq
      rcases List.mem_append.mp hq with hq | hq
      · exact b q hq
      · rw [List.mem_singleton.mp hq]; exact hp
    · rw [e0, e1, ← List.append_assoc, cP_app, fK]; exact l3
    · intro i; rw [e0, e1, ← List.append_assoc, cP_app, fR i]; exact l4 i
    · intro q i; rw [e0, e1, ← List.append_assoc, cP_app, fR i]; exact l5 q i
    · intro _; rw [e0]; exact l6 h
    · rw [e1, List.length_append]
      have := k6.2.2.1
      show (sN s (2 * c + 1)).length + 1 ≤ D + 1 + (sP s (3 + c)).length
      omega
theorem CI_down {D L n c : Nat} {x y : List hb_Pk} {s : hb_S} (H : CI D L n x y s c) {D' : Nat} (h : (sN s (2 * c + 1)).length ≤ D' + (sP s (3 + c)).length) : CI D' L n x y s c := by
  obtain ⟨a, b, k, s4, k5, k6, k7⟩ := H
  exact ⟨a, b, k, s4, k5, ⟨k6.1, k6.2.1, h, k6.2.2.2⟩, k7⟩
theorem CI_tM {D L n c : Nat} {x y : List hb_Pk} {s : hb_S} {q : List hb_Ms} (hq : ∀ m, m ∈ q → oM m) (hl : q.length + (sP s (3 + c)).length ≤ 6) (H : CI D L n x y s c) : CI D L n x y (tM s c q) c := by
  obtain ⟨a, b, k, s4, k5, k6, k7⟩ := H
  have e : sM (tM s c q) c = q := sM_tM _ _ _
  exact ⟨a, b, k, s4, ⟨k5.1, k5.2.1, by rw [e]; exact hq, k5.2.2.2⟩, ⟨k6.1, by rw [e]; exact hl, k6.2.2⟩, k7⟩
theorem CI_tP3 {D L n c : Nat} {x y : List hb_Pk} {s : hb_S} {ps : List hb_Pa} (hc : c < 3) (h1 : ∀ x, x ∈ ps → oA x) (h2 : dst ps) (h3 : (sM s c).length + ps.length ≤ 6) (h4 : ps.length ≤ 3) (h5 : (sN s (2 * c + 1)).length ≤ D + ps.length) (H : CI D L n x y s c) : CI D L n x y (tP s (3 + c) ps) c := by
  obtain ⟨a, b, k, s4, k5, k6, k7⟩ := H
  have e : sP (tP s (3 + c) ps) (3 + c) = ps := sP_tP _ _ _
  have e0 : sP (tP s (3 + c) ps) c = sP s c := by simp only [sP, tP]; exact va_up_ne _ _ (by omega)
  refine ⟨a, b, ?_, by rw [e0]; exact s4, ⟨by rw [e]; exact h1, by rw [e]; exact h2, k5.2.2⟩, ⟨k6.1, by rw [e]; exact h3, by rw [e]; exact h5, k6.2.2.2.1, by rw [e]; exact h4⟩, k7⟩
  unfold LK at k ⊢
  rw [e0]
  exact k
-- the ids in use
def mN (l : List Nat) : Nat := l.foldl (fun m i => m ||| 2 ^ i) 0
theorem or_lt {m i : Nat} (hm : m < 256) (hi : i < 8) : m ||| 2 ^ i < 256 := by
  have : ∀ i, i < 8 → ∀ m, m < 256 → m ||| 2 ^ i < 256 := by decide +kernel
  exact this i hi m hm
theorem or_I {m i : Nat} (hm : m < 256) (hi : i < 8) : nI m ||| ((1 : Int32) <<< (nI i &&& 31)) = nI (m ||| 2 ^ i) := by
  have : ∀ i, i < 8 → ∀ m, m < 256 → nI m ||| ((1 : Int32) <<< (nI i &&& 31)) = nI (m ||| 2 ^ i) := by decide +kernel
  exact this i hi m hm
theorem te_I {m k : Nat} (hm : m < 256) (hk : k < 8) : (nI m &&& ((1 : Int32) <<< (nI k &&& 31)) = 0) ↔ m.testBit k = false := by
  have : ∀ k, k < 8 → ∀ m, m < 256 → ((nI m &&& ((1 : Int32) <<< (nI k &&& 31)) = 0) ↔ m.testBit k = false) := by decide +kernel
  exact this k hk m hm
theorem us_go : ∀ (ps : List hb_Pa) (m : Nat), (∀ x, x ∈ ps → idr x.2.2) → m < 256 → ∃ r, r < 256 ∧ ps.foldl (fun u x => u ||| ((1 : Int32) <<< (x.2.2 &&& 31))) (nI m) = nI r ∧ ∀ k, k < 8 → (r.testBit k = false ↔ m.testBit k = false ∧ ∀ x, x ∈ ps → ¬ x.2.2 = nI k) := by
  intro ps
  induction ps with
  | nil => intro m _ hm; exact ⟨m, hm, rfl, fun k _ => ⟨fun h => ⟨h, fun x hx => by cases hx⟩, fun h => h.1⟩⟩
  | cons x ps ih =>
    intro m h hm
    obtain ⟨i, hi, ei⟩ := h x List.mem_cons_self
    obtain ⟨r, h1, h2, h3⟩ := ih (m ||| 2 ^ i) (fun y hy => h y (List.mem_cons_of_mem _ hy)) (or_lt hm hi)
    refine ⟨r, h1, ?_, fun k hk => ?_⟩
    · rw [List.foldl_cons, ei, or_I hm hi]; exact h2
    · rw [h3 k hk, Nat.testBit_or, Bool.or_eq_false_iff, Nat.testBit_two_pow]
      constructor
      · rintro ⟨⟨a, b⟩, c⟩
        refine ⟨a, fun y hy => ?_⟩
        rcases List.mem_cons.mp hy with rfl | hy
        · rw [ei]
          exact fun e => by have := (nI_eq (by omega) (by omega)).mp e; simp [this] at b
        · exact c y hy
      · rintro ⟨a, b⟩
        refine ⟨⟨a, ?_⟩, fun y hy => b y (List.mem_cons_of_mem _ hy)⟩
        have := b x List.mem_cons_self
        rw [ei] at this
        exact decide_eq_false (fun e => this (by rw [e]))
theorem us_te {ps : List hb_Pa} (h : ∀ x, x ∈ ps → idr x.2.2) {k : Nat} (hk : k < 8) : (pa_us ps &&& ((1 : Int32) <<< (nI k &&& 31)) = 0) ↔ ∀ x, x ∈ ps → ¬ x.2.2 = nI k := by
  obtain ⟨r, h1, h2, h3⟩ := us_go ps 0 h (by decide)
  have e : pa_us ps = nI r := h2
  rw [e, te_I h1 hk, h3 k hk]
  simp
theorem lf_ok {ps : List hb_Pa} (h : ∀ x, x ∈ ps → idr x.2.2) : ∀ n i, i + n = 8 → i ≤ pa_lf (pa_us ps) n i ∧ pa_lf (pa_us ps) n i ≤ 8 ∧ (pa_lf (pa_us ps) n i < 8 → ∀ x, x ∈ ps → ¬ x.2.2 = nI (pa_lf (pa_us ps) n i)) ∧ ∀ k, i ≤ k → k < pa_lf (pa_us ps) n i → ∃ x, x ∈ ps ∧ x.2.2 = nI k := by
  intro n
  induction n with
  | zero => intro i hi; rw [pa_lf]; exact ⟨by omega, by omega, fun q => absurd q (by decide), fun k h1 h2 => by omega⟩
  | succ n ih =>
    intro i hi
    rw [pa_lf]
    have T := us_te h (k := i) (by omega)
    by_cases q : pa_us ps &&& ((1 : Int32) <<< (nI i &&& 31)) = 0
    · rw [if_pos q]; exact ⟨by omega, by omega, fun _ => T.mp q, fun k h1 h2 => by omega⟩
    · rw [if_neg q]
      obtain ⟨a, b, c, d⟩ := ih (i + 1) (by omega)
      refine ⟨by omega, b, c, fun k h1 h2 => ?_⟩
      by_cases e : k = i
      · subst e
        apply Classical.byContradiction
        intro hn
        exact q (T.mpr (fun x hx e => hn ⟨x, hx, e⟩))
      · exact d k (by omega) h2
theorem three_in {ps : List hb_Pa} (hl : (ps.filter (fun x => decide (¬ x.2.2 = 0))).length ≤ 2) (h : ∀ k, 1 ≤ k → k < 4 → ∃ x, x ∈ ps ∧ x.2.2 = nI k) : False := by
  have g : ∀ k, 1 ≤ k → k < 4 → ∃ x, x ∈ ps.filter (fun x => decide (¬ x.2.2 = 0)) ∧ x.2.2 = nI k := by
    intro k h1 h2
    obtain ⟨x, hx, e⟩ := h k h1 h2
    refine ⟨x, List.mem_filter.mpr ⟨hx, decide_eq_true ?_⟩, e⟩
    rw [e]
    exact fun q => by have := (nI_eq (b := 0) (by omega) (by decide)).mp q; omega
  obtain ⟨x1, m1, e1⟩ := g 1 (by decide) (by decide)
  obtain ⟨x2, m2, e2⟩ := g 2 (by decide) (by decide)
  obtain ⟨x3, m3, e3⟩ := g 3 (by decide) (by decide)
  have n12 : ¬ x1 = x2 := fun e => by rw [e, e2] at e1; exact absurd e1 (by decide)
  have n13 : ¬ x1 = x3 := fun e => by rw [e, e3] at e1; exact absurd e1 (by decide)
  have n23 : ¬ x2 = x3 := fun e => by rw [e, e3] at e2; exact absurd e2 (by decide)
  generalize ps.filter (fun x => decide (¬ x.2.2 = 0)) = f at *
  match f, hl with
  | [], _ => cases m1
  | [a], _ => exact n12 ((List.mem_singleton.mp m1).trans (List.mem_singleton.mp m2).symm)
  | [a, b], _ =>
    simp only [List.mem_cons, List.not_mem_nil, or_false] at m1 m2 m3
    rcases m1 with rfl | rfl <;> rcases m2 with rfl | rfl <;> rcases m3 with rfl | rfl <;> first | exact n12 rfl | exact n13 rfl | exact n23 rfl
  | _ :: _ :: _ :: _, h => simp at h
theorem pa_id_ok {ps : List hb_Pa} (h : ∀ x, x ∈ ps → idr x.2.2) (hl : (ps.filter (fun x => decide (¬ x.2.2 = 0))).length ≤ 2) : 0 < pa_id ps ∧ pa_id ps < 4 ∧ ∀ x, x ∈ ps → ¬ x.2.2 = nI (pa_id ps) := by
  obtain ⟨a, b, c, d⟩ := lf_ok h 7 1 rfl
  have h4 : pa_id ps < 4 := by
    apply Classical.byContradiction
    intro hn
    exact three_in hl (fun k h1 h2 => d k h1 (by have : pa_id ps = pa_lf (pa_us ps) 7 1 := rfl; omega))
  exact ⟨a, h4, c (by have : pa_id ps = pa_lf (pa_us ps) 7 1 := rfl; omega)⟩
theorem oA.i {x : hb_Pa} (h : oA x) : idr x.2.2 := h.2.2.r
theorem oP.i {x : hb_Pa} (h : oP x) : idr x.2.2 := by
  rcases h.2 with ⟨_, e⟩ | ⟨_, e⟩
  · exact ⟨0, by decide, e⟩
  · exact e.r
theorem oA_fl {ps : List hb_Pa} (hl : ps.length ≤ 2) : (ps.filter (fun x => decide (¬ x.2.2 = 0))).length ≤ 2 := Nat.le_trans (List.length_filter_le _ _) hl
theorem dst_app {ps : List hb_Pa} {x : hb_Pa} (h : dst ps) (hx : ∀ y, y ∈ ps → ¬ y.2.2 = x.2.2) : dst (ps ++ [x]) := by
  unfold dst at h ⊢
  rw [List.pairwise_append]
  refine ⟨h, List.pairwise_singleton _ _, fun a ha b hb => ?_⟩
  rw [List.mem_singleton.mp hb]
  exact Or.inr (hx a ha)
theorem oD_pub {m : hb_Ms} (hq : q012 m.2.2.1) {id : Int32} (hi : idr id) (ag : Bool) : oD (M_pkt m id ag) := ⟨Or.inr (Or.inl rfl), fun _ => ⟨hq, hi⟩, fun e => absurd e (by show ¬ (3 : Int32) = 6; decide), fun e => absurd e (by show ¬ (3 : Int32) = 5; decide)⟩
theorem oM.q {m : hb_Ms} (h : oM m) : q012 m.2.2.1 := Or.inr h.2
-- pumping
theorem CI_st {D L n c : Nat} {x y : List hb_Pk} {s : hb_S} {m : hb_Ms} {q : List hb_Ms} (hc : c < 3) (hm : sM s c = m :: q) (hl : (sP s (3 + c)).length ≤ 2) (H : CI D L n x y s c) : CI D L n x y (M_st s c m q) c := by
  have hA := H.2.2.2.2.1.1
  have hD := H.2.2.2.2.1.2.1
  have hM := H.2.2.2.2.1.2.2.1
  have k6 := H.2.2.2.2.2.1
  have hmm := hM m (by rw [hm]; exact List.mem_cons_self)
  have hid := pa_id_ok (fun x hx => (hA x hx).i) (oA_fl hl)
  have h1 : CI D L n x y (tM s c q) c := CI_tM (fun m' h' => hM m' (by rw [hm]; exact List.mem_cons_of_mem _ h')) (by have := k6.2.1; rw [hm, List.length_cons] at this; omega) H
  unfold M_st
  have e : (sN s (2 * c + 1)).length ≤ D + (sP s (3 + c)).length := k6.2.2.1
  have h2 : CI D L n x y (tP (tM s c q) (3 + c) (sP s (3 + c) ++ [(m, 1, nI (pa_id (sP s (3 + c))))])) c := by
    refine CI_tP3 hc ?_ ?_ ?_ ?_ ?_ h1
    · intro a ha
      rcases List.mem_append.mp ha with ha | ha
      · exact hA a ha
      · rw [List.mem_singleton.mp ha]
        exact ⟨hmm, Or.inl rfl, ⟨_, hid.1, by omega, rfl⟩⟩
    · exact dst_app hD hid.2.2
    · rw [sM_tM, List.length_append]
      have := k6.2.1
      rw [hm, List.length_cons] at this
      show q.length + ((sP s (3 + c)).length + 1) ≤ 6
      omega
    · rw [List.length_append]; show (sP s (3 + c)).length + 1 ≤ 3; omega
    · rw [List.length_append]; show (sN s (2 * c + 1)).length ≤ D + ((sP s (3 + c)).length + 1); omega
  have h3 := CI_send (p := M_pkt m (nI (pa_id (sP s (3 + c)))) false) (oD_pub hmm.q ⟨_, by omega, rfl⟩ false) (by show ¬ (3 : Int32) = 2; decide) (by show ¬ (3 : Int32) = 5; decide) h2
  refine CI_down h3 ?_
  have h4 := sN_send_len (tP (tM s c q) (3 + c) (sP s (3 + c) ++ [(m, 1, nI (pa_id (sP s (3 + c))))])) c (M_pkt m (nI (pa_id (sP s (3 + c)))) false)
  rw [sP_send, sP_tP, List.length_append]
  refine Nat.le_trans h4 ?_
  show (sN s (2 * c + 1)).length + 1 ≤ D + ((sP s (3 + c)).length + 1)
  omega
theorem CI_pm {D L m c : Nat} {x y : List hb_Pk} (hc : c < 3) {w : Int32} (hw : w ≤ 3) : ∀ (n : Nat) (s : hb_S), CI D L m x y s c → CI D L m x y (M_pm n s c w) c := by
  intro n
  induction n with
  | zero => intro s H; exact H
  | succ n ih =>
    intro s H
    rw [M_pm]
    by_cases h : w ≤ nI (sP s (3 + c)).length
    · rw [if_pos h]; exact H
    · rw [if_neg h]
      cases hm : sM s c with
      | nil => exact H
      | cons a q =>
        have hl : (sP s (3 + c)).length ≤ 2 := by
          apply Classical.byContradiction
          intro hn
          have h3 := H.2.2.2.2.2.1.2.2.2.2
          have : (sP s (3 + c)).length = 3 := by omega
          rw [this] at h
          exact h hw
        exact ih _ (CI_st hc hm hl H)
theorem CI_pump {D L n c : Nat} {x y : List hb_Pk} {s : hb_S} (hc : c < 3) (H : CI D L n x y s c) : CI D L n x y (M_pump s c) c := CI_pm hc (M_win_le H.2.2.2.2.2.1.2.2.2.1) _ _ H
-- spreading, retaining, accepting
def AI (D L : Nat → Nat) (n : Nat) (X Y : Nat → List hb_Pk) (s : hb_S) : Prop := ∀ j, j < 3 → CI (D j) (L j) n (X j) (Y j) s j
def RI (s : hb_S) : Prop := (∀ m, m ∈ sM s 3 → oR m) ∧ (sM s 3).length ≤ 4
theorem fr_spr (B : List hb_Sb) (s : hb_S) (c : Nat) (m : hb_Ms) (own : Bool) : fr c s (M_spr B s c m own) := by
  obtain ⟨a1, a2, a3, a4, a5, a6, a7, _, _⟩ := M_spr_ok B s c m own
  exact ⟨fun k j _ => by rw [a1], fun k j _ => by rw [a2], fun j _ => by rw [a3], fun l _ h => a6 l h, fun l _ _ => by rw [a4], fun l _ => by rw [a5], fun l h => a7 l h⟩
theorem fr_send (s : hb_S) (c : Nat) (p : hb_Pk) : fr c s (M_send s c p) := by
  unfold M_send; split
  · exact fr.rf
  · exact fr_N1 _
theorem fr_pump {D L n c : Nat} {x y : List hb_Pk} {s : hb_S} (H : CI D L n x y s c) : fr c s (M_pump s c) := by
  obtain ⟨a1, a2, a3, a4, a5, a6, a7, _, _, _⟩ := M_pump_ok s c H.2.2.2.2.2.1.2.2.2.1 (by have := H.2.2.2.2.2.1.2.2.2.2; omega)
  exact ⟨fun k j _ => by rw [a1], fun k j _ => by rw [a2], fun j _ => by rw [a3], fun l _ h => a5 l h, fun l _ h => a6 l h, fun l _ => by rw [a4], fun l h => a7 l h⟩
theorem AI_one {D L : Nat → Nat} {n c : Nat} {X Y : Nat → List hb_Pk} {s s' : hb_S} (hc : c < 3) (F : fr c s s') (A : AI D L n X Y s) (h : CI (D c) (L c) n (X c) (Y c) s' c) : AI D L n X Y s' := by
  intro j hj
  by_cases e : j = c
  · rw [e]; exact h
  · exact CI_fr F hj hc e (A j hj)
theorem AI_pump {D L : Nat → Nat} {n c : Nat} {X Y : Nat → List hb_Pk} {s : hb_S} (hc : c < 3) (A : AI D L n X Y s) : AI D L n X Y (M_pump s c) := AI_one hc (fr_pump (A c hc)) A (CI_pump hc (A c hc))
theorem RI_pump {D L n c : Nat} {x y : List hb_Pk} {s : hb_S} (hc : c < 3) (H : CI D L n x y s c) (r : RI s) : RI (M_pump s c) := by
  have := (fr_pump H).2.2.2.2.2.2 3 (by omega)
  unfold RI at *; rw [this]; exact r
theorem cq_val {x : hb_Sb} {m : hb_Ms} {own : Bool} (hx : q012 x.2.1) (hm : q012 m.2.2.1) : M_cq x m own = -1 ∨ q012 (M_cq x m own) := by
  unfold M_cq; split
  · exact Or.inl rfl
  · split
    · exact Or.inr hm
    · exact Or.inr hx
theorem q_pos {q : Int32} (h : q = -1 ∨ q012 q) (h0 : 0 < q) : q = 1 ∨ q = 2 := by
  rcases h with rfl | rfl | rfl | rfl
  · exact absurd h0 (by decide)
  · exact absurd h0 (by decide)
  · exact Or.inl rfl
  · exact Or.inr rfl
theorem CI_send12 {D L n c : Nat} {x y : List hb_Pk} {s : hb_S} {p : hb_Pk} (hp : oD p) (h2 : ¬ p.1 = 2) (h5 : ¬ p.1 = 5) (hd : 12 ≤ D) (hl : (sN s (2 * c + 1)).length < 12) (H : CI D L n x y s c) : CI D L n x y (M_send s c p) c := by
  refine CI_down (CI_send hp h2 h5 H) ?_
  have := sN_send_len s c p
  omega
theorem oD_q0 (a : Int64) (v : Int32) (r : Bool) : oD (M_pkt (a, v, 0, r) 0 false) := oD_pub (Or.inl rfl) ⟨0, by decide, rfl⟩ false
theorem CI_sp1 {D L n c : Nat} {x y : List hb_Pk} {s : hb_S} {b : hb_Sb} {m : hb_Ms} {own : Bool} (hd : 12 ≤ D) (hb : oS b) (hm : tpc m.1 ∧ q012 m.2.2.1) (hr : (sM s c).length + (sP s (3 + c)).length + (if 0 < M_cq b m own then 1 else 0) ≤ 6) (H : CI D L n x y s c) : CI D L n x y (M_sp1 s c b m own) c := by
  unfold M_sp1
  split
  · rename_i h
    exact CI_send12 (oD_q0 _ _ _) (by show ¬ (3 : Int32) = 2; decide) (by show ¬ (3 : Int32) = 5; decide) hd h.2 H
  · split
    · rename_i _ h
      rw [if_pos h] at hr
      refine CI_tM (fun a ha => ?_) (by rw [List.length_append]; show (sM s c).length + 1 + _ ≤ 6; omega) H
      rcases List.mem_append.mp ha with ha | ha
      · exact H.2.2.2.2.1.2.2.1 a ha
      · rw [List.mem_singleton.mp ha]; exact ⟨hm.1, q_pos (cq_val hb.2 hm.2) h⟩
    · exact H
theorem CI_spr {D L n c : Nat} {x y : List hb_Pk} {m : hb_Ms} {own : Bool} (hd : 12 ≤ D) (hm : tpc m.1 ∧ q012 m.2.2.1) : ∀ (B : List hb_Sb) (s : hb_S), (∀ b, b ∈ B → oS b) → (sM s c).length + (sP s (3 + c)).length + M_ck B m own ≤ 6 → CI D L n x y s c → CI D L n x y (M_spr B s c m own) c := by
  intro B
  induction B with
  | nil => intro s _ _ H; exact H
  | cons b B ih =>
    intro s hB hr H
    rw [M_spr]
    obtain ⟨a1, a2, a3, a4, a5, a6, a7, a8, a9⟩ := M_sp1_ok s c b m own
    have hk : M_ck (b :: B) m own = (if 0 < M_cq b m own then 1 else 0) + M_ck B m own := by
      unfold M_ck
      rw [List.filter_cons]
      by_cases q : 0 < M_cq b m own
      · simp [q]; omega
      · simp [q]
    refine ih _ (fun b' h' => hB b' (List.mem_cons_of_mem _ h')) (by rw [a8, a4]; omega) (CI_sp1 hd (hB b List.mem_cons_self) hm (by omega) H)
theorem AI_spF {D L : Nat → Nat} {n c : Nat} {X Y : Nat → List hb_Pk} {m : hb_Ms} (hd : ∀ j, j < 3 → 12 ≤ D j) (hm : tpc m.1 ∧ q012 m.2.2.1) : ∀ (k i : Nat) (s : hb_S), i + k = 3 → (∀ j, i ≤ j → j < 3 → (sM s j).length + (sP s (3 + j)).length + M_ck (sB s j) m (decide (j = c)) ≤ 6) → AI D L n X Y s → AI D L n X Y (M_spF c m k i s) := by
  intro k
  induction k with
  | zero => intro i s _ _ A; exact A
  | succ k ih =>
    intro i s hi hr A
    rw [M_spF]
    have hi3 : i < 3 := by omega
    have F := fr_spr (sB s i) s i m (decide (i = c))
    refine ih (i + 1) _ (by omega) (fun j h1 h2 => ?_) (AI_one hi3 F A (CI_spr (hd i hi3) hm _ _ (A i hi3).2.2.2.2.1.2.2.2.1 (hr i (Nat.le_refl _) hi3) (A i hi3)))
    obtain ⟨_, _, _, _, f5, f6, f7⟩ := F
    rw [f7 j (by omega), f5 (3 + j) (by omega) (by omega), f6 j (by omega)]
    exact hr j (by omega) h2
theorem AI_puF {D L : Nat → Nat} {n : Nat} {X Y : Nat → List hb_Pk} : ∀ (k i : Nat) (s : hb_S), i + k = 3 → AI D L n X Y s → RI s → AI D L n X Y (M_puF k i s) ∧ RI (M_puF k i s) := by
  intro k
  induction k with
  | zero => intro i s _ A r; exact ⟨A, r⟩
  | succ k ih => intro i s hi A r; rw [M_puF]; exact ih (i + 1) _ (by omega) (AI_pump (by omega) A) (RI_pump (by omega) (A i (by omega)) r)
theorem AI_ret {D L : Nat → Nat} {n : Nat} {X Y : Nat → List hb_Pk} {s : hb_S} {m : hb_Ms} (hm : tpc m.1 ∧ q012 m.2.2.1) (A : AI D L n X Y s) (r : RI s) : AI D L n X Y (M_ret s m) ∧ RI (M_ret s m) := by
  have one : ∀ q : List hb_Ms, (∀ x, x ∈ q → oR x) → q.length ≤ 4 → AI D L n X Y (tM s 3 q) ∧ RI (tM s 3 q) := by
    intro q h1 h2
    refine ⟨fun j hj => CI_ret q hj (A j hj), ?_⟩
    unfold RI; rw [sM_tM]; exact ⟨h1, h2⟩
  unfold M_ret; split
  · unfold M_retain; split
    · split
      · exact one _ (fun x hx => r.1 x (List.mem_of_mem_eraseIdx hx)) (Nat.le_trans (List.length_eraseIdx_le _ _) r.2)
      · refine one _ (fun x hx => ?_) (by rw [List.length_set]; exact r.2)
        rcases List.mem_or_eq_of_mem_set hx with hx | rfl
        · exact r.1 x hx
        · exact hm
    · split
      · rename_i h
        refine one _ (fun x hx => ?_) (by rw [List.length_append]; show (sM s 3).length + 1 ≤ 4; omega)
        rcases List.mem_append.mp hx with hx | hx
        · exact r.1 x hx
        · rw [List.mem_singleton.mp hx]; exact hm
      · exact ⟨A, r⟩
  · exact ⟨A, r⟩
theorem AI_acc {D L : Nat → Nat} {n c : Nat} {X Y : Nat → List hb_Pk} {s : hb_S} {m : hb_Ms} (hd : ∀ j, j < 3 → 12 ≤ D j) (hm : tpc m.1 ∧ q012 m.2.2.1) (A : AI D L n X Y s) (r : RI s) : AI D L n X Y (M_acc s c m).1 ∧ RI (M_acc s c m).1 := by
  unfold M_acc
  by_cases h : M_rmF s c m 3 0 = true
  · rw [if_pos h]
    have hr := M_rmF_all s c m 3 0 h
    have A1 := AI_spF hd hm 3 0 s rfl (fun j h1 h2 => hr j h1 (by omega)) A
    have r1 : RI (M_spF c m 3 0 s) := by
      have := (M_spF_ok c m 3 0 s).2.2.2.2.2.2.1 3 (by omega)
      unfold RI at *; rw [this]; exact r
    have B := AI_ret hm A1 r1
    exact AI_puF 3 0 _ rfl B.1 B.2
  · rw [if_neg h]; exact ⟨A, r⟩
-- closing and ending
theorem CI_drop {D L n c : Nat} {x y : List hb_Pk} {s : hb_S} {p : hb_Pk} (H : CI D L n (p :: x) y s c) : CI D L n x y s c := by
  obtain ⟨a, b, ⟨l1, l2, l3, l4, l5, l6, l7⟩, s4, k5, k6, k7⟩ := H
  have cp : ∀ f : hb_Pk → Bool, (x ++ sN s (2 * c)).countP f ≤ (p :: x ++ sN s (2 * c)).countP f := fun f => by
    rw [List.cons_append, List.countP_cons]; omega
  refine ⟨a, b, ⟨l1, fun q => ⟨(l2 q).1, fun r hr => (l2 q).2 r (List.mem_cons_of_mem _ hr)⟩, ?_, ?_, ?_, ?_, l7⟩, s4, k5, k6, k7⟩
  · have := cp isC; omega
  · intro i; have := cp (isU i); have := l4 i; omega
  · intro q i; have := cp (isU i); have := l5 q i; omega
  · intro q; have := cp isC; have := l6 q; omega
theorem CI_dropY {D L n c : Nat} {x y : List hb_Pk} {s : hb_S} {p : hb_Pk} (H : CI D L n x (p :: y) s c) : CI D L n x y s c := by
  obtain ⟨a, b, ⟨l1, l2, l3, l4, l5, l6, l7⟩, s4, k5, k6, k7⟩ := H
  have cp : ∀ f : hb_Pk → Bool, (y ++ sN s (2 * c + 1)).countP f ≤ (p :: y ++ sN s (2 * c + 1)).countP f := fun f => by
    rw [List.cons_append, List.countP_cons]; omega
  refine ⟨a, b, ⟨l1, fun q => absurd (l2 q).1 (by simp), ?_, ?_, ?_, l6, l7⟩, s4, k5, k6, k7⟩
  · have := cp isK; omega
  · intro i; have := cp (isR i); have := l4 i; omega
  · intro q i; have := cp (isR i); have := l5 q i; omega
-- from where the connection is shut and the down line empty
theorem CI_outlive {D D' L n c : Nat} {x y : List hb_Pk} {s : hb_S} (hd : sN s (2 * c + 1) = []) (h5 : sI s 5 c = 0) (h1 : sI s 1 c = 0) (hU : (∀ p, p ∈ sN s (2 * c) → oU p) ∧ (sN s (2 * c)).length ≤ L) (hK : LK x y s c) (hS : okS (sP s c)) (k5 : K5 s c) (k6 : ba D s c) (c2 : 0 ≤ sI s 8 c ∧ q012 (sI s 14 c) ∧ (sI s 8 c = 0 → sI s 7 c = 0)) (c3 : 0 ≤ sI s 11 c ∧ sI s 11 c ≤ 50) (c5 : ∃ k, k < 512 ∧ sI s 4 c = nI k) (c6 : ∃ k, k < 512 ∧ sI s 13 c = nI k) (c7 : ∃ k, k ≤ n ∧ sI s 2 c = nI k) (c8 : sJ s 0 c = 0 ∨ tpc (sJ s 0 c)) (c9 : sJ s 1 c = 0 ∨ tpc (sJ s 1 c)) : CI D' L n x y (M_outlive s c) c := by
  unfold M_outlive
  by_cases h : sI s 11 c = 0
  · rw [if_pos h]
    unfold M_end
    have e0 : ∀ (t : hb_S), sP (tP t (3 + c) []) c = sP t c := fun t => by simp only [sP, tP]; exact va_up_ne _ _ (by omega)
    have eP : sP (tI (tI (tP (tM (tB (tI s 12 c (sI s 11 c)) c []) c []) (3 + c) []) 13 c 0) 10 c 0) (3 + c) = [] := sP_tP _ _ _
    have eM : sM (tI (tI (tP (tM (tB (tI s 12 c (sI s 11 c)) c []) c []) (3 + c) []) 13 c 0) 10 c 0) c = [] := sM_tM (tB (tI s 12 c (sI s 11 c)) c []) _ _
    have eB : sB (tI (tI (tP (tM (tB (tI s 12 c (sI s 11 c)) c []) c []) (3 + c) []) 13 c 0) 10 c 0) c = [] := sB_tB (tI s 12 c (sI s 11 c)) _ _
    have eI : ∀ k, ¬ k = 10 → ¬ k = 13 → ¬ k = 12 → sI (tI (tI (tP (tM (tB (tI s 12 c (sI s 11 c)) c []) c []) (3 + c) []) 13 c 0) 10 c 0) k c = sI s k c := by intro k a b d; simp [st_a, a, b, d]
    have e10 : sI (tI (tI (tP (tM (tB (tI s 12 c (sI s 11 c)) c []) c []) (3 + c) []) 13 c 0) 10 c 0) 10 c = 0 := by simp [st_a]
    have e13 : sI (tI (tI (tP (tM (tB (tI s 12 c (sI s 11 c)) c []) c []) (3 + c) []) 13 c 0) 10 c 0) 13 c = 0 := by simp [st_a]
    have hc0 : sP (tI (tI (tP (tM (tB (tI s 12 c (sI s 11 c)) c []) c []) (3 + c) []) 13 c 0) 10 c 0) c = sP s c := e0 _
    refine ⟨hU, fun p hp => ?_, ?_, ?_, ⟨?_, ?_, ?_, ?_, fun _ => eB⟩, ⟨?_, ?_, ?_, k6.2.2.2.1, ?_⟩, ⟨fun _ => h1, c2, c3, fun _ q => absurd e10 q, c5, ⟨0, by decide, e13⟩, c7, c8, c9, fun q => absurd h1 q⟩⟩
    · have : p ∈ sN s (2 * c + 1) := hp
      rw [hd] at this; cases this
    · unfold LK at hK ⊢
      rw [hc0]
      exact hK
    · rw [hc0]; exact hS
    · rw [eP]; intro x hx; cases hx
    · rw [eP]; exact List.Pairwise.nil
    · rw [eM]; intro x hx; cases hx
    · rw [eB]; intro x hx; cases hx
    · rw [eB]; exact Nat.zero_le _
    · rw [eM, eP]; exact Nat.zero_le _
    · show (sN s (2 * c + 1)).length ≤ _
      rw [hd]; exact Nat.zero_le _
    · rw [eP]; exact Nat.zero_le _
  · rw [if_neg h]
    have h12 : sI (tI s 12 c (sI s 11 c)) 12 c = sI s 11 c := by simp [st_a]
    have h1l : 1 ≤ sI s 11 c := by
      rw [Int32.le_iff_toInt_le]
      have q := Int32.le_iff_toInt_le.mp c3.1
      have q2 : ¬ (sI s 11 c).toInt = (0 : Int32).toInt := fun e => h (Int32.toInt_inj.mp e)
      have z : (0 : Int32).toInt = 0 := rfl
      have o : (1 : Int32).toInt = 1 := rfl
      omega
    refine ⟨hU, fun p hp => ?_, hK, hS, k5, ⟨k6.1, k6.2.1, ?_, k6.2.2.2⟩, ⟨fun _ => h1, c2, c3, fun _ _ => by rw [h12]; exact h1l, c5, c6, c7, c8, c9, fun q => absurd h1 q⟩⟩
    · have : p ∈ sN s (2 * c + 1) := hp
      rw [hd] at this; cases this
    · show (sN s (2 * c + 1)).length ≤ _
      rw [hd]; exact Nat.zero_le _
-- what closing the link leaves
theorem close_up (s : hb_S) (c : Nat) : sN (M_close s c) (2 * c) = [] := by
  unfold M_close; simp only [sN, tN, tI]; rw [va_up_ne _ _ (by omega), va_up_self]
theorem close_dn (s : hb_S) (c : Nat) : sN (M_close s c) (2 * c + 1) = [] := sN_tN (tN s (2 * c) []) _ _
theorem close_I {s : hb_S} {c k : Nat} (h0 : ¬ k = 0) (h1 : ¬ k = 1) : sI (M_close s c) k c = sI s k c := by
  unfold M_close; simp [st_a, h0, h1]
theorem close_0 (s : hb_S) (c : Nat) : sI (M_close s c) 0 c = 0 := by unfold M_close; simp [st_a]
theorem close_1 (s : hb_S) (c : Nat) : sI (M_close s c) 1 c = 0 := by unfold M_close; simp [st_a]
theorem LK_close (s : hb_S) (c : Nat) : LK [] [] (M_close s c) c := by
  unfold LK
  rw [close_up, close_dn, close_0, close_1]
  refine ⟨fun _ => ⟨rfl, rfl⟩, fun _ => ⟨rfl, fun p hp => (by cases hp)⟩, by simp, fun i => by simp, fun q => absurd q (by decide), fun q => absurd rfl q, fun q => absurd q (by decide)⟩
theorem CI_close {D D' L L' n c : Nat} {x y : List hb_Pk} {s : hb_S} (H : CI D L n x y s c) : CI D' L' n [] [] (M_close s c) c := by
  obtain ⟨a, b, l, s4, k5, k6, c1, c2, c3, c4, c5, c6, c7, c8, c9, c10⟩ := H
  have eU := close_up s c
  have eD := close_dn s c
  refine ⟨⟨fun p hp => (by rw [eU] at hp; cases hp), by rw [eU]; exact Nat.zero_le _⟩, fun p hp => (by rw [eD] at hp; cases hp), LK_close s c, s4, ?_, ?_, ?_⟩
  · unfold K5; rw [close_I (by decide) (by decide)]; exact k5
  · unfold ba; rw [eD, close_I (by decide) (by decide)]
    exact ⟨k6.1, k6.2.1, Nat.zero_le _, k6.2.2.2⟩
  · unfold K7
    rw [close_1, close_I (by decide) (by decide), close_I (by decide) (by decide), close_I (by decide) (by decide), close_I (by decide) (by decide), close_I (by decide) (by decide), close_I (by decide) (by decide), close_I (by decide) (by decide), close_I (by decide) (by decide), close_I (by decide) (by decide), close_I (by decide) (by decide)]
    exact ⟨fun _ => rfl, c2, c3, c4, c5, c6, c7, c8, c9, fun q => absurd rfl q⟩
theorem CI_bd1 {D D' L L' n c : Nat} {x y : List hb_Pk} {s : hb_S} (H : CI D L n x y s c) : CI D' L' n [] [] (M_bd1 s c) c := by
  unfold M_bd1
  obtain ⟨a, b, l, s4, k5, k6, c1, c2, c3, c4, c5, c6, c7, c8, c9, c10⟩ := H
  have eI : ∀ k, ¬ k = 0 → ¬ k = 1 → ¬ k = 5 → sI (M_close (tI s 5 c 0) c) k c = sI s k c := fun k a b d => by rw [close_I a b]; simp [st_a, d]
  have eU := close_up (tI s 5 c 0) c
  refine CI_outlive (D := D) (close_dn _ _) (by rw [close_I (by decide) (by decide)]; simp [st_a]) (close_1 _ _) ⟨fun p hp => (by rw [eU] at hp; cases hp), by rw [eU]; exact Nat.zero_le _⟩ (LK_close _ _) s4 ?_ ?_ ?_ ?_ ?_ ?_ ?_ c8 c9
  · unfold K5; rw [eI _ (by decide) (by decide) (by decide)]; exact k5
  · unfold ba; rw [close_dn, eI _ (by decide) (by decide) (by decide)]
    exact ⟨k6.1, k6.2.1, Nat.zero_le _, k6.2.2.2⟩
  · rw [eI _ (by decide) (by decide) (by decide), eI _ (by decide) (by decide) (by decide), eI _ (by decide) (by decide) (by decide)]; exact c2
  · rw [eI _ (by decide) (by decide) (by decide)]; exact c3
  · rw [eI _ (by decide) (by decide) (by decide)]; exact c5
  · rw [eI _ (by decide) (by decide) (by decide)]; exact c6
  · rw [eI _ (by decide) (by decide) (by decide)]; exact c7
theorem CI_cn0 {D D' L n c : Nat} {x y : List hb_Pk} {s : hb_S} (h1 : sI s 1 c = 0) (H : CI D L n x y s c) : CI D' L n x y (M_cn s c) c := by
  unfold M_cn
  rw [if_pos h1]
  obtain ⟨a, b, l, s4, k5, k6, c1, c2, c3, c4, c5, c6, c7, c8, c9, c10⟩ := H
  have hd := (List.append_eq_nil_iff.mp (l.2.1 h1).1).2
  exact CI_outlive (D := D) hd (by simp [st_a]) h1 a l s4 k5 k6 c2 c3 c5 c6 c7 c8 c9
theorem CI_cn {D D' L n c : Nat} {s : hb_S} (H : CI D L n [] [] s c) : CI D' L n [] [] (M_cn s c) c := by
  by_cases h1 : sI s 1 c = 0
  · exact CI_cn0 h1 H
  · have := CI_bd1 (D' := D') (L' := L) H
    unfold M_bd1 at this
    unfold M_cn
    rw [if_neg h1]; exact this
def up1 (X : Nat → List hb_Pk) (c : Nat) (x : List hb_Pk) : Nat → List hb_Pk := fun j => if j = c then x else X j
theorem AI_acc' {D L : Nat → Nat} {n c : Nat} {X Y : Nat → List hb_Pk} {s : hb_S} (hc : c < 3) (hd : ∀ j, j < 3 → 12 ≤ D j) (A : AI D L n X Y s) (r : RI s) : AI D L n X Y (if sJ s 1 c = 0 then s else (M_acc s c (sJ s 1 c, sI s 9 c, 1, false)).1) ∧ RI (if sJ s 1 c = 0 then s else (M_acc s c (sJ s 1 c, sI s 9 c, 1, false)).1) := by
  by_cases h : sJ s 1 c = 0
  · rw [if_pos h]; exact ⟨A, r⟩
  · rw [if_neg h]
    have := (A c hc).2.2.2.2.2.2.2.2.2.2.2.2.2.2.1
    exact AI_acc hd ⟨this.resolve_left h, Or.inr (Or.inl rfl)⟩ A r
theorem RI_fr {c : Nat} {s s' : hb_S} (hc : c < 3) (F : fr c s s') (r : RI s) : RI s' := by
  have := F.2.2.2.2.2.2 3 (by omega)
  unfold RI at *; rw [this]; exact r
theorem AI_ca {D L : Nat → Nat} {n c : Nat} {X Y : Nat → List hb_Pk} {s : hb_S} (hc : c < 3) (hd : ∀ j, j < 3 → 12 ≤ D j) (h : sI s 1 c = 0 ∨ (X c = [] ∧ Y c = [])) (A : AI D L n X Y s) (r : RI s) : AI D L n X Y (M_ca s c) ∧ RI (M_ca s c) := by
  unfold M_ca
  have A1 : AI D L n X Y (M_cn s c) := by
    refine AI_one hc (fr_cn s c) A ?_
    rcases h with h | ⟨h1, h2⟩
    · exact CI_cn0 h (A c hc)
    · have := A c hc
      rw [h1, h2] at this ⊢
      exact CI_cn this
  exact AI_acc' hc hd A1 (RI_fr hc (fr_cn s c) r)
theorem i32_1 {v : Int32} (h : 0 < v) : 1 ≤ v := by
  rw [Int32.le_iff_toInt_le]
  have q := Int32.lt_iff_toInt_lt.mp h
  have z : (0 : Int32).toInt = 0 := rfl
  have o : (1 : Int32).toInt = 1 := rfl
  omega
theorem CI_cd {D L n c : Nat} {x y : List hb_Pk} {s : hb_S} (h5 : sI s 5 c = 0) (H : CI D L n x y s c) : CI D L n x y (M_cd s c).1 c := by
  unfold M_cd
  by_cases h : sI s 10 c = 0
  · rw [if_pos h]; exact H
  · rw [if_neg h]
    by_cases h2 : 0 < sI s 12 c - 1
    · rw [if_pos h2]
      obtain ⟨a, b, l, s4, k5, k6, c1, c2, c3, c4, c5, c6, c7, c8, c9, c10⟩ := H
      exact ⟨a, b, l, s4, k5, k6, c1, c2, c3, fun _ _ => by simp only [st_a]; simp; exact i32_1 h2, c5, c6, c7, c8, c9, c10⟩
    · rw [if_neg h2]
      obtain ⟨a, b, l, s4, k5, k6, c1, c2, c3, c4, c5, c6, c7, c8, c9, c10⟩ := H
      have h1 := c1 h5
      have hd := (List.append_eq_nil_iff.mp (l.2.1 h1).1).2
      -- the same as outlive with an expiry of 0
      have := CI_outlive (D := D) (D' := D) (s := tI (tI s 12 c (sI s 12 c - 1)) 11 c 0) hd h5 h1 a l s4 k5 k6 c2 (by simp [st_a]) c5 c6 c7 c8 c9
      unfold M_outlive at this
      rw [if_pos (by simp [st_a])] at this
      obtain ⟨a, b, l, s4, k5, k6, d1, d2, d3, d4, d5, d6, d7, d8, d9, d10⟩ := this
      exact ⟨a, b, l, s4, k5, k6, d1, d2, c3, fun _ q => absurd (by simp [M_end, st_a]) q, d5, d6, d7, d8, d9, d10⟩
theorem CI_gs {D L n c : Nat} {x y : List hb_Pk} {s : hb_S} (H : CI D L n x y s c) : CI D L n x y (M_gs s c).1 c := by
  unfold M_gs; split
  · exact H
  · rename_i q
    obtain ⟨a, b, l, s4, k5, k6, c1, c2, c3, c4, c5, c6, c7, c8, c9, c10⟩ := H
    exact ⟨a, b, l, s4, k5, k6, c1, ⟨c2.1, c2.2.1, fun w => absurd w q⟩, c3, c4, c5, c6, c7, c8, c9, c10⟩
theorem AI_tk1 {D L : Nat → Nat} {n c : Nat} {s : hb_S} (hc : c < 3) (hd : ∀ j, j < 3 → 12 ≤ D j) (A : AI D L n (fun _ => []) (fun _ => []) s) (r : RI s) : AI D L n (fun _ => []) (fun _ => []) (M_tk1 s c).1 ∧ RI (M_tk1 s c).1 := by
  unfold M_tk1
  by_cases h5 : sI s 5 c = 0
  · rw [if_pos h5]; exact ⟨AI_one hc (fr_cd s c) A (CI_cd h5 (A c hc)), RI_fr hc (fr_cd s c) r⟩
  · rw [if_neg h5]
    have A1 := AI_one hc (fr_gs s c) A (CI_gs (A c hc))
    have r1 := RI_fr hc (fr_gs s c) r
    split
    · exact AI_ca hc hd (Or.inr ⟨rfl, rfl⟩) A1 r1
    · exact ⟨A1, r1⟩
theorem AI_tkF {D L : Nat → Nat} {n : Nat} (hd : ∀ j, j < 3 → 12 ≤ D j) : ∀ (k i : Nat) (s : hb_S) (m : Nat), i + k = 3 → AI D L n (fun _ => []) (fun _ => []) s → RI s → AI D L n (fun _ => []) (fun _ => []) (M_tkF k i s m).1 ∧ RI (M_tkF k i s m).1 := by
  intro k
  induction k with
  | zero => intro i s m _ A r; exact ⟨A, r⟩
  | succ k ih =>
    intro i s m hi A r
    rw [M_tkF]
    have B := AI_tk1 (c := i) (by omega) hd A r
    exact ih (i + 1) _ _ (by omega) B.1 B.2
theorem AI_bd {D L D' L' : Nat → Nat} {n : Nat} {X Y : Nat → List hb_Pk} {s : hb_S} (A : AI D L n X Y s) (r : RI s) : AI D' L' n (fun _ => []) (fun _ => []) (M_bd s) ∧ RI (M_bd s) := by
  unfold M_bd
  have f0 := fr_bd1 s 0
  have f1 := fr_bd1 (M_bd1 s 0) 1
  have f2 := fr_bd1 (M_bd1 (M_bd1 s 0) 1) 2
  refine ⟨fun j hj => ?_, RI_fr (by decide) f2 (RI_fr (by decide) f1 (RI_fr (by decide) f0 r))⟩
  rcases (show j = 0 ∨ j = 1 ∨ j = 2 by omega) with rfl | rfl | rfl
  · exact CI_fr f2 hj (by decide) (by decide) (CI_fr f1 hj (by decide) (by decide) (CI_bd1 (A 0 hj)))
  · exact CI_fr f2 hj (by decide) (by decide) (CI_bd1 (CI_fr f0 hj (by decide) (by decide) (A 1 hj)))
  · exact CI_bd1 (CI_fr f1 hj (by decide) (by decide) (CI_fr f0 hj (by decide) (by decide) (A 2 hj)))
-- what the broker does with a packet
theorem CI_att {D L n c : Nat} {x y : List hb_Pk} {s : hb_S} {p : hb_Pk} (H : CI D L n (p :: x) y s c) (hp : ¬ p.1 = 1) : ¬ sI s 1 c = 0 := fun q => hp ((H.2.2.1.2.1 q).2 p List.mem_cons_self)
theorem CI_lives {D L n c : Nat} {x y : List hb_Pk} {s : hb_S} (H : CI D L n x y s c) (h : ¬ sI s 1 c = 0) : ¬ sI s 10 c = 0 := H.2.2.2.2.2.2.2.2.2.2.2.2.2.2.2 h
theorem dst_sub {a b : List hb_Pa} (h : a.Sublist b) (d : dst b) : dst a := List.Pairwise.sublist h d
theorem CI_fin {D D' L n c : Nat} {x y : List hb_Pk} {s : hb_S} (hc : c < 3) (id q st : Int32) (hd : (sN s (2 * c + 1)).length ≤ D') (H : CI D L n x y s c) : CI D' L n x y (tP s (3 + c) (pa_fin (sP s (3 + c)) id q st)) c := by
  have k5 := H.2.2.2.2.1
  have k6 := H.2.2.2.2.2.1
  have hl := pa_fin_len (sP s (3 + c)) id q st
  exact CI_tP3 hc (fun a ha => k5.1 a (List.mem_filter.mp ha).1) (dst_sub List.filter_sublist k5.2.1) (by have := k6.2.1; omega) (by have := k6.2.2.2.2; omega) (by omega) (CI_down H (by omega))
theorem rel_mem : ∀ (ps : List hb_Pa) (id : Int32) (a : hb_Pa), a ∈ (pa_rel ps id).1 → a ∈ ps ∨ ∃ b, b ∈ ps ∧ a = (b.1, 2, b.2.2) ∧ b.1.2.2.1 = 2 ∧ ¬ b.2.1 = 0 := by
  intro ps
  induction ps with
  | nil => intro id a h; rw [pa_rel] at h; cases h
  | cons x r ih =>
    intro id a h
    rw [pa_rel] at h
    split at h
    · rename_i q
      rcases List.mem_cons.mp h with rfl | h
      · exact Or.inr ⟨x, List.mem_cons_self, rfl, q.2.1, q.2.2⟩
      · exact Or.inl (List.mem_cons_of_mem _ h)
    · rcases List.mem_cons.mp h with rfl | h
      · exact Or.inl List.mem_cons_self
      · rcases ih id a h with h | ⟨b, h1, h2⟩
        · exact Or.inl (List.mem_cons_of_mem _ h)
        · exact Or.inr ⟨b, List.mem_cons_of_mem _ h1, h2⟩
theorem rel_ids : ∀ (ps : List hb_Pa) (id : Int32), (pa_rel ps id).1.map (fun x => x.2.2) = ps.map (fun x => x.2.2) := by
  intro ps
  induction ps with
  | nil => intro id; rfl
  | cons x r ih =>
    intro id
    rw [pa_rel]
    split
    · rfl
    · simp [ih id]
theorem dst_ids {a b : List hb_Pa} (h : a.map (fun x => x.2.2) = b.map (fun x => x.2.2)) (d : dst b) : dst a := by
  have e : ∀ l : List hb_Pa, dst l ↔ (l.map (fun x => x.2.2)).Pairwise (fun i j => i = 0 ∨ ¬ i = j) := fun l => by unfold dst; rw [List.pairwise_map]
  rw [e, h, ← e]; exact d
theorem CI_rel {D D' L n c : Nat} {x y : List hb_Pk} {s : hb_S} (hc : c < 3) (id : Int32) (hd : (sN s (2 * c + 1)).length ≤ D') (H : CI D L n x y s c) : CI D' L n x y (tP s (3 + c) (pa_rel (sP s (3 + c)) id).1) c := by
  have k5 := H.2.2.2.2.1
  have k6 := H.2.2.2.2.2.1
  have hl := pa_rel_len (sP s (3 + c)) id
  refine CI_tP3 hc (fun a ha => ?_) (dst_ids (rel_ids _ _) k5.2.1) (by rw [hl]; exact k6.2.1) (by rw [hl]; exact k6.2.2.2.2) (by omega) (CI_down H (by omega))
  rcases rel_mem _ _ _ ha with ha | ⟨b, hb, rfl, h1, _⟩
  · exact k5.1 a ha
  · exact ⟨(k5.1 b hb).1, Or.inr ⟨rfl, h1⟩, (k5.1 b hb).2.2⟩
theorem h_add {k i : Nat} (hk : k < 512) (hi : i < 8) : ∃ m, m < 512 ∧ hadd (nI k) (nI i) = nI m := by
  have : ∀ i, i < 8 → ∀ k, k < 512 → (k ||| 2 ^ i) < 512 ∧ hadd (nI k) (nI i) = nI (k ||| 2 ^ i) := by decide +kernel
  exact ⟨_, this i hi k hk⟩
theorem h_rem {k i : Nat} (hk : k < 512) (hi : i < 8) : ∃ m, m < 512 ∧ hrem (nI k) (nI i) = nI m := by
  have : ∀ i, i < 8 → ∀ k, k < 512 → (k - (k &&& 2 ^ i)) < 512 ∧ hrem (nI k) (nI i) = nI (k - (k &&& 2 ^ i)) := by decide +kernel
  exact ⟨_, this i hi k hk⟩
theorem CI_13 {D L n c : Nat} {x y : List hb_Pk} {s : hb_S} {v : Int32} (hv : ∃ k, k < 512 ∧ v = nI k) (H : CI D L n x y s c) : CI D L n x y (tI s 13 c v) c := by
  obtain ⟨a, b, l, s4, k5, k6, c1, c2, c3, c4, c5, c6, c7, c8, c9, c10⟩ := H
  obtain ⟨k, h1, h2⟩ := hv
  exact ⟨a, b, l, s4, k5, k6, c1, c2, c3, c4, c5, ⟨k, h1, by rw [← h2]; simp [st_a]⟩, c7, c8, c9, c10⟩
theorem CI_4 {D L n c : Nat} {x y : List hb_Pk} {s : hb_S} {v : Int32} (hv : ∃ k, k < 512 ∧ v = nI k) (H : CI D L n x y s c) : CI D L n x y (tI s 4 c v) c := by
  obtain ⟨a, b, l, s4, k5, k6, c1, c2, c3, c4, c5, c6, c7, c8, c9, c10⟩ := H
  obtain ⟨k, h1, h2⟩ := hv
  exact ⟨a, b, l, s4, k5, k6, c1, c2, c3, c4, ⟨k, h1, by rw [← h2]; simp [st_a]⟩, c6, c7, c8, c9, c10⟩
-- PUBREC for the PUBLISH in hand
theorem CI_rec {D L n c : Nat} {x y : List hb_Pk} {s : hb_S} {p : hb_Pk} (v : Int32) (h3 : p.1 = 3) (h2 : p.2.2.2.2.1 = 2) (hi : idr p.2.1) (H : CI D L n (p :: x) y s c) : CI (D + 1) L n x y (M_send s c (mkp 5 p.2.1 v)) c := by
  have hat := CI_att H (by rw [h3]; decide)
  unfold M_send
  rw [if_neg hat]
  obtain ⟨a, b, ⟨l1, l2, l3, l4, l5, l6, l7⟩, s4, k5, k6, k7⟩ := H
  have e1 : sN (tN s (2 * c + 1) (sN s (2 * c + 1) ++ [mkp 5 p.2.1 v])) (2 * c + 1) = sN s (2 * c + 1) ++ [mkp 5 p.2.1 v] := sN_tN _ _ _
  have e0 : sN (tN s (2 * c + 1) (sN s (2 * c + 1) ++ [mkp 5 p.2.1 v])) (2 * c) = sN s (2 * c) := by simp only [sN, tN]; exact va_up_ne _ _ (by omega)
  have fC : isC p = false := decide_eq_false (by rw [h3]; decide)
  have fU : ∀ i, isU i p = decide (p.2.1 = i) := fun i => by unfold isU; simp [h3, h2]
  have fR : ∀ i, isR i (mkp 5 p.2.1 v) = decide (p.2.1 = i) := fun i => by unfold isR mkp; simp
  have fK : isK (mkp 5 p.2.1 v) = false := decide_eq_false (by show ¬ (5 : Int32) = 2; decide)
  have cU : ∀ i, (p :: x ++ sN s (2 * c)).countP (isU i) = (x ++ sN s (2 * c)).countP (isU i) + if decide (p.2.1 = i) = true then 1 else 0 := fun i => by rw [List.cons_append, List.countP_cons, fU i]
  refine ⟨by rw [e0]; exact a, fun q hq => ?_, ⟨fun q => absurd (l1 q).2 hat, fun q => absurd q hat, ?_, ?_, ?_, ?_, l7⟩, s4, k5, ⟨k6.1, k6.2.1, ?_, k6.2.2.2⟩, k7⟩
  · rw [e1] at hq
    rcases List.mem_append.mp hq with hq | hq
    · exact b q hq
    · rw [List.mem_singleton.mp hq]
      exact ⟨Or.inr (Or.inr (Or.inr (Or.inr (Or.inl rfl)))), fun e => absurd e (by show ¬ (5 : Int32) = 3; decide), fun e => absurd e (by show ¬ (5 : Int32) = 6; decide), fun _ => hi⟩
  · rw [List.cons_append, List.countP_cons, fC] at l3
    rw [e0, e1, ← List.append_assoc, cP_app, fK]; exact l3
  · intro i
    have := l4 i
    rw [cU] at this
    rw [e0, e1, ← List.append_assoc, cP_app, fR i]
    exact Nat.le_trans (Nat.le_of_eq (by omega)) this
  · intro q
    exfalso
    have := l5 q p.2.1
    rw [cU] at this
    simp at this
  · intro _
    have := l6 hat
    rw [List.cons_append, List.countP_cons, fC] at this
    rw [e0]; exact this
  · rw [e1, List.length_append]
    have := k6.2.2.1
    show (sN s (2 * c + 1)).length + 1 ≤ D + 1 + (sP s (3 + c)).length
    omega
theorem oD_4 (id v : Int32) : oD (mkp 4 id v) := ⟨Or.inr (Or.inr (Or.inr (Or.inl rfl))), fun e => absurd e (by show ¬ (4 : Int32) = 3; decide), fun e => absurd e (by show ¬ (4 : Int32) = 6; decide), fun e => absurd e (by show ¬ (4 : Int32) = 5; decide)⟩
theorem oD_7 (id v : Int32) : oD (mkp 7 id v) := ⟨Or.inr (Or.inr (Or.inr (Or.inr (Or.inr (Or.inl rfl))))), fun e => absurd e (by show ¬ (7 : Int32) = 3; decide), fun e => absurd e (by show ¬ (7 : Int32) = 6; decide), fun e => absurd e (by show ¬ (7 : Int32) = 5; decide)⟩
theorem oD_9 (id v : Int32) : oD (mkp 9 id v) := ⟨Or.inr (Or.inr (Or.inr (Or.inr (Or.inr (Or.inr (Or.inl rfl)))))), fun e => absurd e (by show ¬ (9 : Int32) = 3; decide), fun e => absurd e (by show ¬ (9 : Int32) = 6; decide), fun e => absurd e (by show ¬ (9 : Int32) = 5; decide)⟩
theorem oD_11 (id v : Int32) : oD (mkp 11 id v) := ⟨Or.inr (Or.inr (Or.inr (Or.inr (Or.inr (Or.inr (Or.inr (Or.inl rfl))))))), fun e => absurd e (by show ¬ (11 : Int32) = 3; decide), fun e => absurd e (by show ¬ (11 : Int32) = 6; decide), fun e => absurd e (by show ¬ (11 : Int32) = 5; decide)⟩
theorem oD_13 (id v : Int32) : oD (mkp 13 id v) := ⟨Or.inr (Or.inr (Or.inr (Or.inr (Or.inr (Or.inr (Or.inr (Or.inr rfl))))))), fun e => absurd e (by show ¬ (13 : Int32) = 3; decide), fun e => absurd e (by show ¬ (13 : Int32) = 6; decide), fun e => absurd e (by show ¬ (13 : Int32) = 5; decide)⟩
theorem oD_2 (id v : Int32) : oD (mkp 2 id v) := ⟨Or.inl rfl, fun e => absurd e (by show ¬ (2 : Int32) = 3; decide), fun e => absurd e (by show ¬ (2 : Int32) = 6; decide), fun e => absurd e (by show ¬ (2 : Int32) = 5; decide)⟩
theorem oD_6 {id : Int32} (v : Int32) (h : idr id) : oD (mkp 6 id v) := ⟨Or.inr (Or.inr (Or.inl rfl)), fun e => absurd e (by show ¬ (6 : Int32) = 3; decide), fun _ => h, fun e => absurd e (by show ¬ (6 : Int32) = 5; decide)⟩
theorem CI_sendT {D L n c : Nat} {x y : List hb_Pk} {s : hb_S} {t id v : Int32} (hp : oD (mkp t id v)) (h2 : ¬ t = 2) (h5 : ¬ t = 5) (H : CI D L n x y s c) : CI (D + 1) L n x y (M_send s c (mkp t id v)) c := CI_send hp h2 h5 H
-- D counts what client c may have; the others keep 13
def Dc (c d : Nat) : Nat → Nat := fun j => if j = c then d else 13
theorem Dc_self (c d : Nat) : Dc c d c = d := if_pos rfl
theorem Dc_12 {c d : Nat} (h : 12 ≤ d) : ∀ j, j < 3 → 12 ≤ Dc c d j := fun j _ => by unfold Dc; split <;> omega
theorem AI_at {d d' l l' : Nat} {n c : Nat} {x x' y y' : List hb_Pk} {s s' : hb_S} (hc : c < 3) (F : fr c s s') (A : AI (Dc c d) (fun j => if j = c then l else 19) n (up1 (fun _ => []) c x) (up1 (fun _ => []) c y) s) (h : CI d l n x y s c → CI d' l' n x' y' s' c) : AI (Dc c d') (fun j => if j = c then l' else 19) n (up1 (fun _ => []) c x') (up1 (fun _ => []) c y') s' := by
  intro j hj
  have := A j hj
  by_cases e : j = c
  · subst e
    unfold Dc up1 at this ⊢
    simp only [if_true] at this ⊢
    exact h this
  · unfold Dc up1 at this ⊢
    simp only [e, if_false] at this ⊢
    exact CI_fr F hj hc e this
