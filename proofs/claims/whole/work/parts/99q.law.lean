/-! The law's cases (laid by wip/whole/p99q.py). -/
theorem ev_find_lo : ∀ (A : ev_C) (n pc : Nat), (A.map Prod.fst).all (fun q => Nat.blt q n) = true → n ≤ pc → ev_find A pc = none := by
  intro A
  induction A with
  | nil => intro n pc _ _; rfl
  | cons x A ih =>
    intro n pc h hn
    obtain ⟨q, op⟩ := x
    rw [List.map_cons, List.all_cons, Bool.and_eq_true] at h
    have hq : q < n := Nat.blt_eq.mp h.1
    have hb : Nat.beq q pc = false := by
      cases e : Nat.beq q pc with
      | false => rfl
      | true => have := Nat.eq_of_beq_eq_true e; omega
    rw [ev_find, hb]
    exact ih n pc h.2 hn
theorem ev_find_nx : ∀ (A B : ev_C) (pc : Nat), ev_find A pc = none → ev_find (A ++ B) pc = ev_find B pc := by
  intro A
  induction A with
  | nil => intro B pc _; rfl
  | cons x A ih =>
    intro B pc h
    obtain ⟨q, op⟩ := x
    rw [ev_find] at h
    rw [List.cons_append, ev_find]
    cases e : Nat.beq q pc with
    | true => rw [e] at h; cases h
    | false => rw [e] at h; exact ih B pc h
theorem ev_find_hd : ∀ (A B : ev_C) (pc : Nat) (op : ev_Op), ev_find A pc = some op → ev_find (A ++ B) pc = some op := by
  intro A
  induction A with
  | nil => intro B pc op h; cases h
  | cons x A ih =>
    intro B pc op h
    obtain ⟨q, op'⟩ := x
    rw [ev_find] at h
    rw [List.cons_append, ev_find]
    cases e : Nat.beq q pc with
    | true => rw [e] at h; exact h
    | false => rw [e] at h; exact ih B pc op h
section LW
variable {b Ls : Nat} {xs : Nat → Int32} {z : Nat × Nat} {pc : Nat} {op : ev_Op}
theorem lk_0 {B : ev_C} (h : 171 ≤ pc) : ev_find (mk_law_0 b Ls xs z ++ B) pc = ev_find B pc := ev_find_nx _ _ _ (ev_find_lo _ 171 _ rfl h)
theorem lk_1 {B : ev_C} (h : 244 ≤ pc) : ev_find (mk_law_1 b Ls xs z ++ B) pc = ev_find B pc := ev_find_nx _ _ _ (ev_find_lo _ 244 _ rfl h)
theorem lk_2 {B : ev_C} (h : 324 ≤ pc) : ev_find (mk_law_2 b Ls xs z ++ B) pc = ev_find B pc := ev_find_nx _ _ _ (ev_find_lo _ 324 _ rfl h)
theorem lk_3 {B : ev_C} (h : 399 ≤ pc) : ev_find (mk_law_3 b Ls xs z ++ B) pc = ev_find B pc := ev_find_nx _ _ _ (ev_find_lo _ 399 _ rfl h)
theorem lk_4 {B : ev_C} (h : 473 ≤ pc) : ev_find (mk_law_4 b Ls xs z ++ B) pc = ev_find B pc := ev_find_nx _ _ _ (ev_find_lo _ 473 _ rfl h)
theorem lk_5 {B : ev_C} (h : 545 ≤ pc) : ev_find (mk_law_5 b Ls xs z ++ B) pc = ev_find B pc := ev_find_nx _ _ _ (ev_find_lo _ 545 _ rfl h)
theorem lk_6 {B : ev_C} (h : 624 ≤ pc) : ev_find (mk_law_6 b Ls xs z ++ B) pc = ev_find B pc := ev_find_nx _ _ _ (ev_find_lo _ 624 _ rfl h)
theorem lk_7 {B : ev_C} (h : 716 ≤ pc) : ev_find (mk_law_7 b Ls xs z ++ B) pc = ev_find B pc := ev_find_nx _ _ _ (ev_find_lo _ 716 _ rfl h)
theorem lk_8 {B : ev_C} (h : 794 ≤ pc) : ev_find (mk_law_8 b Ls xs z ++ B) pc = ev_find B pc := ev_find_nx _ _ _ (ev_find_lo _ 794 _ rfl h)
theorem lk_9 {B : ev_C} (h : 876 ≤ pc) : ev_find (mk_law_9 b Ls xs z ++ B) pc = ev_find B pc := ev_find_nx _ _ _ (ev_find_lo _ 876 _ rfl h)
theorem lk_10 {B : ev_C} (h : 953 ≤ pc) : ev_find (mk_law_10 b Ls xs z ++ B) pc = ev_find B pc := ev_find_nx _ _ _ (ev_find_lo _ 953 _ rfl h)
theorem lk_11 {B : ev_C} (h : 1028 ≤ pc) : ev_find (mk_law_11 b Ls xs z ++ B) pc = ev_find B pc := ev_find_nx _ _ _ (ev_find_lo _ 1028 _ rfl h)
theorem flw_0 (h : ev_find (mk_law_0 b Ls xs z) pc = some op) : ev_find (mk_law b Ls xs z) pc = some op := ev_find_hd _ _ _ _ h
theorem flw_1 (h0 : 171 ≤ pc) (h : ev_find (mk_law_1 b Ls xs z) pc = some op) : ev_find (mk_law b Ls xs z) pc = some op := by
  unfold mk_law
  rw [lk_0 (Nat.le_trans (by decide) h0)]
  exact ev_find_hd _ _ _ _ h
theorem flw_2 (h0 : 244 ≤ pc) (h : ev_find (mk_law_2 b Ls xs z) pc = some op) : ev_find (mk_law b Ls xs z) pc = some op := by
  unfold mk_law
  rw [lk_0 (Nat.le_trans (by decide) h0), lk_1 (Nat.le_trans (by decide) h0)]
  exact ev_find_hd _ _ _ _ h
theorem flw_3 (h0 : 324 ≤ pc) (h : ev_find (mk_law_3 b Ls xs z) pc = some op) : ev_find (mk_law b Ls xs z) pc = some op := by
  unfold mk_law
  rw [lk_0 (Nat.le_trans (by decide) h0), lk_1 (Nat.le_trans (by decide) h0), lk_2 (Nat.le_trans (by decide) h0)]
  exact ev_find_hd _ _ _ _ h
theorem flw_4 (h0 : 399 ≤ pc) (h : ev_find (mk_law_4 b Ls xs z) pc = some op) : ev_find (mk_law b Ls xs z) pc = some op := by
  unfold mk_law
  rw [lk_0 (Nat.le_trans (by decide) h0), lk_1 (Nat.le_trans (by decide) h0), lk_2 (Nat.le_trans (by decide) h0), lk_3 (Nat.le_trans (by decide) h0)]
  exact ev_find_hd _ _ _ _ h
theorem flw_5 (h0 : 473 ≤ pc) (h : ev_find (mk_law_5 b Ls xs z) pc = some op) : ev_find (mk_law b Ls xs z) pc = some op := by
  unfold mk_law
  rw [lk_0 (Nat.le_trans (by decide) h0), lk_1 (Nat.le_trans (by decide) h0), lk_2 (Nat.le_trans (by decide) h0), lk_3 (Nat.le_trans (by decide) h0), lk_4 (Nat.le_trans (by decide) h0)]
  exact ev_find_hd _ _ _ _ h
theorem flw_6 (h0 : 545 ≤ pc) (h : ev_find (mk_law_6 b Ls xs z) pc = some op) : ev_find (mk_law b Ls xs z) pc = some op := by
  unfold mk_law
  rw [lk_0 (Nat.le_trans (by decide) h0), lk_1 (Nat.le_trans (by decide) h0), lk_2 (Nat.le_trans (by decide) h0), lk_3 (Nat.le_trans (by decide) h0), lk_4 (Nat.le_trans (by decide) h0), lk_5 (Nat.le_trans (by decide) h0)]
  exact ev_find_hd _ _ _ _ h
theorem flw_7 (h0 : 624 ≤ pc) (h : ev_find (mk_law_7 b Ls xs z) pc = some op) : ev_find (mk_law b Ls xs z) pc = some op := by
  unfold mk_law
  rw [lk_0 (Nat.le_trans (by decide) h0), lk_1 (Nat.le_trans (by decide) h0), lk_2 (Nat.le_trans (by decide) h0), lk_3 (Nat.le_trans (by decide) h0), lk_4 (Nat.le_trans (by decide) h0), lk_5 (Nat.le_trans (by decide) h0), lk_6 (Nat.le_trans (by decide) h0)]
  exact ev_find_hd _ _ _ _ h
theorem flw_8 (h0 : 716 ≤ pc) (h : ev_find (mk_law_8 b Ls xs z) pc = some op) : ev_find (mk_law b Ls xs z) pc = some op := by
  unfold mk_law
  rw [lk_0 (Nat.le_trans (by decide) h0), lk_1 (Nat.le_trans (by decide) h0), lk_2 (Nat.le_trans (by decide) h0), lk_3 (Nat.le_trans (by decide) h0), lk_4 (Nat.le_trans (by decide) h0), lk_5 (Nat.le_trans (by decide) h0), lk_6 (Nat.le_trans (by decide) h0), lk_7 (Nat.le_trans (by decide) h0)]
  exact ev_find_hd _ _ _ _ h
theorem flw_9 (h0 : 794 ≤ pc) (h : ev_find (mk_law_9 b Ls xs z) pc = some op) : ev_find (mk_law b Ls xs z) pc = some op := by
  unfold mk_law
  rw [lk_0 (Nat.le_trans (by decide) h0), lk_1 (Nat.le_trans (by decide) h0), lk_2 (Nat.le_trans (by decide) h0), lk_3 (Nat.le_trans (by decide) h0), lk_4 (Nat.le_trans (by decide) h0), lk_5 (Nat.le_trans (by decide) h0), lk_6 (Nat.le_trans (by decide) h0), lk_7 (Nat.le_trans (by decide) h0), lk_8 (Nat.le_trans (by decide) h0)]
  exact ev_find_hd _ _ _ _ h
theorem flw_10 (h0 : 876 ≤ pc) (h : ev_find (mk_law_10 b Ls xs z) pc = some op) : ev_find (mk_law b Ls xs z) pc = some op := by
  unfold mk_law
  rw [lk_0 (Nat.le_trans (by decide) h0), lk_1 (Nat.le_trans (by decide) h0), lk_2 (Nat.le_trans (by decide) h0), lk_3 (Nat.le_trans (by decide) h0), lk_4 (Nat.le_trans (by decide) h0), lk_5 (Nat.le_trans (by decide) h0), lk_6 (Nat.le_trans (by decide) h0), lk_7 (Nat.le_trans (by decide) h0), lk_8 (Nat.le_trans (by decide) h0), lk_9 (Nat.le_trans (by decide) h0)]
  exact ev_find_hd _ _ _ _ h
theorem flw_11 (h0 : 953 ≤ pc) (h : ev_find (mk_law_11 b Ls xs z) pc = some op) : ev_find (mk_law b Ls xs z) pc = some op := by
  unfold mk_law
  rw [lk_0 (Nat.le_trans (by decide) h0), lk_1 (Nat.le_trans (by decide) h0), lk_2 (Nat.le_trans (by decide) h0), lk_3 (Nat.le_trans (by decide) h0), lk_4 (Nat.le_trans (by decide) h0), lk_5 (Nat.le_trans (by decide) h0), lk_6 (Nat.le_trans (by decide) h0), lk_7 (Nat.le_trans (by decide) h0), lk_8 (Nat.le_trans (by decide) h0), lk_9 (Nat.le_trans (by decide) h0), lk_10 (Nat.le_trans (by decide) h0)]
  exact ev_find_hd _ _ _ _ h
theorem flw_12 (h0 : 1028 ≤ pc) (h : ev_find (mk_law_12 b Ls xs z) pc = some op) : ev_find (mk_law b Ls xs z) pc = some op := by
  unfold mk_law
  rw [lk_0 (Nat.le_trans (by decide) h0), lk_1 (Nat.le_trans (by decide) h0), lk_2 (Nat.le_trans (by decide) h0), lk_3 (Nat.le_trans (by decide) h0), lk_4 (Nat.le_trans (by decide) h0), lk_5 (Nat.le_trans (by decide) h0), lk_6 (Nat.le_trans (by decide) h0), lk_7 (Nat.le_trans (by decide) h0), lk_8 (Nat.le_trans (by decide) h0), lk_9 (Nat.le_trans (by decide) h0), lk_10 (Nat.le_trans (by decide) h0), lk_11 (Nat.le_trans (by decide) h0)]
  exact h
theorem ev_W.sldN {C : ev_C} {nx j : Nat} {K : ev_L} {r : List Value} {h : ev_H} {i v : Int32} {Q : ev_O → Prop} (hf : ev_find C pc = some (ev_fn (ev_sld b Ls xs nx))) (hi : i = nI j) (hj : j < Ls) (hn : Ls < 2 ^ 31) (hv : xs j = v) (k : ev_W C (nx, K, .int v :: r, h) Q) : ev_W C (pc, K, .int i :: .ref b :: r, h) Q := by
  subst hi hv
  refine ev_W.fn hf ?_ k
  unfold ev_sld
  simp only []
  rw [if_pos ⟨trivial, nI_in hj hn⟩, nI_clamp (by omega)]
theorem ev_W.slenN {C : ev_C} {nx : Nat} {K : ev_L} {r : List Value} {h : ev_H} {Q : ev_O → Prop} (hf : ev_find C pc = some (ev_fn (ev_slen b Ls nx))) (k : ev_W C (nx, K, .int (nI Ls) :: r, h) Q) : ev_W C (pc, K, .ref b :: r, h) Q := by
  refine ev_W.fn hf ?_ k
  unfold ev_slen
  simp only []
  rw [if_pos trivial]
  rfl
end LW
theorem cli (x : Int32) : (∃ c, c < 3 ∧ x = nI c) ∨ ¬ (0 ≤ x ∧ x ≤ 2) := by
  by_cases h : 0 ≤ x ∧ x ≤ 2
  · left
    rcases q_of h with e | e | e
    · exact ⟨0, by decide, e⟩
    · exact ⟨1, by decide, e⟩
    · exact ⟨2, by decide, e⟩
  · exact Or.inr h
section LC
variable {b Ls : Nat} {xs : Nat → Int32} {z : Nat × Nat} {sz N j : Nat} {s : hb_S} {h : ev_H} {Q : ev_O → Prop}
abbrev lwL (b sz j : Nat) : ev_L := [some (.ref b), some (.ref sz), some (.ref (sz + 46)), some (.int (nI (7 * j)))]
theorem law_0 (hN : N < 2 ^ 30) (hj : 7 * j + 7 ≤ Ls) (hL : Ls ≤ 3584) (J : jn z sz N s h) (k : ∀ s' h', jn z sz (N + 1) s' h' → ev_W (mk_law b Ls xs z) (1075, lwL b sz j, [], h') Q) : ev_W (mk_law b Ls xs z) (128, lwL b sz j, [], h) Q := by
  obtain ⟨fc, oc⟩ := J.o
  rcases cli (xs (7 * j + 1)) with ⟨c, hc, e1⟩ | hx
  · refine ev_W.fn (flw_0 rfl) rfl ?_
    refine ev_W.fn (flw_0 rfl) rfl ?_
    refine ev_W.fn (flw_0 rfl) rfl ?_
    refine ev_W.fn (flw_0 rfl) rfl ?_
    refine ev_W.fn (flw_0 rfl) rfl ?_
    refine ev_W.sldN (flw_0 rfl) (nI_1 _) (by omega) (by omega) e1 ?_
    refine ev_W.fn (flw_0 rfl) rfl ?_
    refine ev_W.fn (flw_0 rfl) rfl ?_
    refine ev_W.fn (flw_0 rfl) rfl ?_
    refine ev_W.fn (flw_0 rfl) rfl ?_
    refine ev_W.sldN (flw_0 rfl) (nI_add _ 2) (by omega) (by omega) rfl ?_
    refine ev_W.fn (flw_0 rfl) rfl ?_
    refine ev_W.fn (flw_0 rfl) rfl ?_
    refine ev_W.fn (flw_0 rfl) rfl ?_
    refine ev_W.fn (flw_0 rfl) rfl ?_
    refine ev_W.fn (flw_0 rfl) rfl ?_
    refine ev_W.fn (flw_0 rfl) rfl ?_
    refine ev_W.fn (flw_0 rfl) rfl ?_
    refine ev_W.sldN (flw_0 rfl) (nI_add _ 3) (by omega) (by omega) rfl ?_
    refine ev_W.fn (flw_0 rfl) rfl ?_
    refine ev_W.fn (flw_0 rfl) rfl ?_
    refine ev_W.fn (flw_0 rfl) rfl ?_
    refine ev_W.fn (flw_0 rfl) rfl ?_
    refine ev_W.fn (flw_0 rfl) rfl ?_
    refine ev_W.fn (flw_0 rfl) rfl ?_
    refine ev_W.fn (flw_0 rfl) rfl ?_
    refine ev_W.fn (flw_0 rfl) rfl ?_
    refine ev_W.sldN (flw_0 rfl) (nI_add _ 4) (by omega) (by omega) rfl ?_
    refine ev_W.clR (flw_0 rfl) rfl rfl rfl rfl oc ?_
    refine c_will J hc (fun h1 Jm => ?_)
    obtain ⟨fz, oz⟩ := Jm.o
    refine ev_W.fn (flw_0 rfl) rfl ?_
    refine ev_W.fn (flw_0 rfl) rfl ?_
    refine ev_W.fn (flw_0 rfl) rfl ?_
    refine ev_W.fn (flw_0 rfl) rfl ?_
    refine ev_W.fn (flw_0 rfl) rfl ?_
    refine ev_W.sldN (flw_0 rfl) (nI_1 _) (by omega) (by omega) e1 ?_
    refine ev_W.fn (flw_0 rfl) rfl ?_
    refine ev_W.fn (flw_0 rfl) rfl ?_
    refine ev_W.fn (flw_0 rfl) rfl ?_
    refine ev_W.fn (flw_1 (by decide) rfl) rfl ?_
    refine ev_W.sldN (flw_1 (by decide) rfl) (nI_add _ 2) (by omega) (by omega) rfl ?_
    refine ev_W.fn (flw_1 (by decide) rfl) rfl ?_
    refine ev_W.fn (flw_1 (by decide) rfl) rfl ?_
    refine ev_W.fn (flw_1 (by decide) rfl) rfl ?_
    refine ev_W.fn (flw_1 (by decide) rfl) rfl ?_
    refine ev_W.fn (flw_1 (by decide) rfl) rfl ?_
    refine ev_W.fn (flw_1 (by decide) rfl) rfl ?_
    refine ev_W.fn (flw_1 (by decide) rfl) rfl ?_
    refine ev_W.sldN (flw_1 (by decide) rfl) (nI_add _ 3) (by omega) (by omega) rfl ?_
    refine ev_W.fn (flw_1 (by decide) rfl) rfl ?_
    refine ev_W.fn (flw_1 (by decide) rfl) rfl ?_
    refine ev_W.fn (flw_1 (by decide) rfl) rfl ?_
    refine ev_W.fn (flw_1 (by decide) rfl) rfl ?_
    refine ev_W.fn (flw_1 (by decide) rfl) rfl ?_
    refine ev_W.fn (flw_1 (by decide) rfl) rfl ?_
    refine ev_W.fn (flw_1 (by decide) rfl) rfl ?_
    refine ev_W.fn (flw_1 (by decide) rfl) rfl ?_
    refine ev_W.sldN (flw_1 (by decide) rfl) (nI_add _ 4) (by omega) (by omega) rfl ?_
    refine ev_W.clR (flw_1 (by decide) rfl) rfl rfl rfl rfl oz ?_
    refine z_will Jm hc (fun h2 Jn => ?_)
    refine ev_W.brT (flw_1 (by decide) rfl) rfl rfl ?_
    exact k _ _ Jn
  · refine ev_W.fn (flw_0 rfl) rfl ?_
    refine ev_W.fn (flw_0 rfl) rfl ?_
    refine ev_W.fn (flw_0 rfl) rfl ?_
    refine ev_W.fn (flw_0 rfl) rfl ?_
    refine ev_W.fn (flw_0 rfl) rfl ?_
    refine ev_W.sldN (flw_0 rfl) (nI_1 _) (by omega) (by omega) rfl ?_
    refine ev_W.fn (flw_0 rfl) rfl ?_
    refine ev_W.fn (flw_0 rfl) rfl ?_
    refine ev_W.fn (flw_0 rfl) rfl ?_
    refine ev_W.fn (flw_0 rfl) rfl ?_
    refine ev_W.sldN (flw_0 rfl) (nI_add _ 2) (by omega) (by omega) rfl ?_
    refine ev_W.fn (flw_0 rfl) rfl ?_
    refine ev_W.fn (flw_0 rfl) rfl ?_
    refine ev_W.fn (flw_0 rfl) rfl ?_
    refine ev_W.fn (flw_0 rfl) rfl ?_
    refine ev_W.fn (flw_0 rfl) rfl ?_
    refine ev_W.fn (flw_0 rfl) rfl ?_
    refine ev_W.fn (flw_0 rfl) rfl ?_
    refine ev_W.sldN (flw_0 rfl) (nI_add _ 3) (by omega) (by omega) rfl ?_
    refine ev_W.fn (flw_0 rfl) rfl ?_
    refine ev_W.fn (flw_0 rfl) rfl ?_
    refine ev_W.fn (flw_0 rfl) rfl ?_
    refine ev_W.fn (flw_0 rfl) rfl ?_
    refine ev_W.fn (flw_0 rfl) rfl ?_
    refine ev_W.fn (flw_0 rfl) rfl ?_
    refine ev_W.fn (flw_0 rfl) rfl ?_
    refine ev_W.fn (flw_0 rfl) rfl ?_
    refine ev_W.sldN (flw_0 rfl) (nI_add _ 4) (by omega) (by omega) rfl ?_
    refine ev_W.clR (flw_0 rfl) rfl rfl rfl rfl oc ?_
    refine c_will0 J hx ?_
    have Jm := J.same
    obtain ⟨fz, oz⟩ := Jm.o
    refine ev_W.fn (flw_0 rfl) rfl ?_
    refine ev_W.fn (flw_0 rfl) rfl ?_
    refine ev_W.fn (flw_0 rfl) rfl ?_
    refine ev_W.fn (flw_0 rfl) rfl ?_
    refine ev_W.fn (flw_0 rfl) rfl ?_
    refine ev_W.sldN (flw_0 rfl) (nI_1 _) (by omega) (by omega) rfl ?_
    refine ev_W.fn (flw_0 rfl) rfl ?_
    refine ev_W.fn (flw_0 rfl) rfl ?_
    refine ev_W.fn (flw_0 rfl) rfl ?_
    refine ev_W.fn (flw_1 (by decide) rfl) rfl ?_
    refine ev_W.sldN (flw_1 (by decide) rfl) (nI_add _ 2) (by omega) (by omega) rfl ?_
    refine ev_W.fn (flw_1 (by decide) rfl) rfl ?_
    refine ev_W.fn (flw_1 (by decide) rfl) rfl ?_
    refine ev_W.fn (flw_1 (by decide) rfl) rfl ?_
    refine ev_W.fn (flw_1 (by decide) rfl) rfl ?_
    refine ev_W.fn (flw_1 (by decide) rfl) rfl ?_
    refine ev_W.fn (flw_1 (by decide) rfl) rfl ?_
    refine ev_W.fn (flw_1 (by decide) rfl) rfl ?_
    refine ev_W.sldN (flw_1 (by decide) rfl) (nI_add _ 3) (by omega) (by omega) rfl ?_
    refine ev_W.fn (flw_1 (by decide) rfl) rfl ?_
    refine ev_W.fn (flw_1 (by decide) rfl) rfl ?_
    refine ev_W.fn (flw_1 (by decide) rfl) rfl ?_
    refine ev_W.fn (flw_1 (by decide) rfl) rfl ?_
    refine ev_W.fn (flw_1 (by decide) rfl) rfl ?_
    refine ev_W.fn (flw_1 (by decide) rfl) rfl ?_
    refine ev_W.fn (flw_1 (by decide) rfl) rfl ?_
    refine ev_W.fn (flw_1 (by decide) rfl) rfl ?_
    refine ev_W.sldN (flw_1 (by decide) rfl) (nI_add _ 4) (by omega) (by omega) rfl ?_
    refine ev_W.clR (flw_1 (by decide) rfl) rfl rfl rfl rfl oz ?_
    refine z_will0 Jm hx ?_
    have Jn := Jm.same
    refine ev_W.fn (flw_1 (by decide) rfl) rfl ?_
    exact k _ _ Jn
theorem law_1 (hN : N < 2 ^ 30) (hj : 7 * j + 7 ≤ Ls) (hL : Ls ≤ 3584) (J : jn z sz N s h) (k : ∀ s' h', jn z sz (N + 1) s' h' → ev_W (mk_law b Ls xs z) (1075, lwL b sz j, [], h') Q) : ev_W (mk_law b Ls xs z) (201, lwL b sz j, [], h) Q := by
  obtain ⟨fc, oc⟩ := J.o
  rcases cli (xs (7 * j + 1)) with ⟨c, hc, e1⟩ | hx
  · by_cases hb : xs (7 * j + 2) = 0
    · refine ev_W.fn (flw_1 (by decide) rfl) rfl ?_
      refine ev_W.fn (flw_1 (by decide) rfl) rfl ?_
      refine ev_W.fn (flw_1 (by decide) rfl) rfl ?_
      refine ev_W.fn (flw_1 (by decide) rfl) rfl ?_
      refine ev_W.fn (flw_1 (by decide) rfl) rfl ?_
      refine ev_W.sldN (flw_1 (by decide) rfl) (nI_1 _) (by omega) (by omega) e1 ?_
      refine ev_W.fn (flw_1 (by decide) rfl) rfl ?_
      refine ev_W.fn (flw_1 (by decide) rfl) rfl ?_
      refine ev_W.fn (flw_1 (by decide) rfl) rfl ?_
      refine ev_W.fn (flw_1 (by decide) rfl) rfl ?_
      refine ev_W.sldN (flw_1 (by decide) rfl) (nI_add _ 2) (by omega) (by omega) rfl ?_
      refine ev_W.brT (flw_1 (by decide) rfl) rfl hb ?_
      refine ev_W.fn (flw_1 (by decide) rfl) rfl ?_
      refine ev_W.fn (flw_1 (by decide) rfl) rfl ?_
      refine ev_W.fn (flw_1 (by decide) rfl) rfl ?_
      refine ev_W.fn (flw_1 (by decide) rfl) rfl ?_
      refine ev_W.fn (flw_1 (by decide) rfl) rfl ?_
      refine ev_W.sldN (flw_1 (by decide) rfl) (nI_add _ 3) (by omega) (by omega) rfl ?_
      refine ev_W.fn (flw_1 (by decide) rfl) rfl ?_
      refine ev_W.fn (flw_1 (by decide) rfl) rfl ?_
      refine ev_W.fn (flw_1 (by decide) rfl) rfl ?_
      refine ev_W.fn (flw_1 (by decide) rfl) rfl ?_
      refine ev_W.sldN (flw_1 (by decide) rfl) (nI_add _ 4) (by omega) (by omega) rfl ?_
      refine ev_W.fn (flw_1 (by decide) rfl) rfl ?_
      refine ev_W.fn (flw_1 (by decide) rfl) rfl ?_
      refine ev_W.fn (flw_1 (by decide) rfl) rfl ?_
      refine ev_W.fn (flw_1 (by decide) rfl) rfl ?_
      refine ev_W.sldN (flw_1 (by decide) rfl) (nI_add _ 5) (by omega) (by omega) rfl ?_
      refine ev_W.clR (flw_1 (by decide) rfl) rfl rfl rfl rfl oc ?_
      refine c_con (cl := false) J hc (fun h1 Jm => ?_)
      obtain ⟨fz, oz⟩ := Jm.o
      refine ev_W.fn (flw_1 (by decide) rfl) rfl ?_
      refine ev_W.fn (flw_1 (by decide) rfl) rfl ?_
      refine ev_W.fn (flw_1 (by decide) rfl) rfl ?_
      refine ev_W.fn (flw_1 (by decide) rfl) rfl ?_
      refine ev_W.fn (flw_1 (by decide) rfl) rfl ?_
      refine ev_W.sldN (flw_1 (by decide) rfl) (nI_1 _) (by omega) (by omega) e1 ?_
      refine ev_W.fn (flw_2 (by decide) rfl) rfl ?_
      refine ev_W.fn (flw_2 (by decide) rfl) rfl ?_
      refine ev_W.fn (flw_2 (by decide) rfl) rfl ?_
      refine ev_W.fn (flw_2 (by decide) rfl) rfl ?_
      refine ev_W.sldN (flw_2 (by decide) rfl) (nI_add _ 2) (by omega) (by omega) rfl ?_
      refine ev_W.brT (flw_2 (by decide) rfl) rfl hb ?_
      refine ev_W.fn (flw_2 (by decide) rfl) rfl ?_
      refine ev_W.fn (flw_2 (by decide) rfl) rfl ?_
      refine ev_W.fn (flw_2 (by decide) rfl) rfl ?_
      refine ev_W.fn (flw_2 (by decide) rfl) rfl ?_
      refine ev_W.fn (flw_2 (by decide) rfl) rfl ?_
      refine ev_W.sldN (flw_2 (by decide) rfl) (nI_add _ 3) (by omega) (by omega) rfl ?_
      refine ev_W.fn (flw_2 (by decide) rfl) rfl ?_
      refine ev_W.fn (flw_2 (by decide) rfl) rfl ?_
      refine ev_W.fn (flw_2 (by decide) rfl) rfl ?_
      refine ev_W.fn (flw_2 (by decide) rfl) rfl ?_
      refine ev_W.sldN (flw_2 (by decide) rfl) (nI_add _ 4) (by omega) (by omega) rfl ?_
      refine ev_W.fn (flw_2 (by decide) rfl) rfl ?_
      refine ev_W.fn (flw_2 (by decide) rfl) rfl ?_
      refine ev_W.fn (flw_2 (by decide) rfl) rfl ?_
      refine ev_W.fn (flw_2 (by decide) rfl) rfl ?_
      refine ev_W.sldN (flw_2 (by decide) rfl) (nI_add _ 5) (by omega) (by omega) rfl ?_
      refine ev_W.clR (flw_2 (by decide) rfl) rfl rfl rfl rfl oz ?_
      refine z_con (cl := false) Jm hc (fun h2 Jn => ?_)
      refine ev_W.brT (flw_2 (by decide) rfl) rfl rfl ?_
      exact k _ _ Jn
    · refine ev_W.fn (flw_1 (by decide) rfl) rfl ?_
      refine ev_W.fn (flw_1 (by decide) rfl) rfl ?_
      refine ev_W.fn (flw_1 (by decide) rfl) rfl ?_
      refine ev_W.fn (flw_1 (by decide) rfl) rfl ?_
      refine ev_W.fn (flw_1 (by decide) rfl) rfl ?_
      refine ev_W.sldN (flw_1 (by decide) rfl) (nI_1 _) (by omega) (by omega) e1 ?_
      refine ev_W.fn (flw_1 (by decide) rfl) rfl ?_
      refine ev_W.fn (flw_1 (by decide) rfl) rfl ?_
      refine ev_W.fn (flw_1 (by decide) rfl) rfl ?_
      refine ev_W.fn (flw_1 (by decide) rfl) rfl ?_
      refine ev_W.sldN (flw_1 (by decide) rfl) (nI_add _ 2) (by omega) (by omega) rfl ?_
      refine ev_W.brF (flw_1 (by decide) rfl) rfl hb ?_
      refine ev_W.fn (flw_1 (by decide) rfl) rfl ?_
      refine ev_W.fn (flw_1 (by decide) rfl) rfl ?_
      refine ev_W.fn (flw_1 (by decide) rfl) rfl ?_
      refine ev_W.fn (flw_1 (by decide) rfl) rfl ?_
      refine ev_W.fn (flw_1 (by decide) rfl) rfl ?_
      refine ev_W.fn (flw_1 (by decide) rfl) rfl ?_
      refine ev_W.sldN (flw_1 (by decide) rfl) (nI_add _ 3) (by omega) (by omega) rfl ?_
      refine ev_W.fn (flw_1 (by decide) rfl) rfl ?_
      refine ev_W.fn (flw_1 (by decide) rfl) rfl ?_
      refine ev_W.fn (flw_1 (by decide) rfl) rfl ?_
      refine ev_W.fn (flw_1 (by decide) rfl) rfl ?_
      refine ev_W.sldN (flw_1 (by decide) rfl) (nI_add _ 4) (by omega) (by omega) rfl ?_
      refine ev_W.fn (flw_1 (by decide) rfl) rfl ?_
      refine ev_W.fn (flw_1 (by decide) rfl) rfl ?_
      refine ev_W.fn (flw_1 (by decide) rfl) rfl ?_
      refine ev_W.fn (flw_1 (by decide) rfl) rfl ?_
      refine ev_W.sldN (flw_1 (by decide) rfl) (nI_add _ 5) (by omega) (by omega) rfl ?_
      refine ev_W.clR (flw_1 (by decide) rfl) rfl rfl rfl rfl oc ?_
      refine c_con (cl := true) J hc (fun h1 Jm => ?_)
      obtain ⟨fz, oz⟩ := Jm.o
      refine ev_W.fn (flw_1 (by decide) rfl) rfl ?_
      refine ev_W.fn (flw_1 (by decide) rfl) rfl ?_
      refine ev_W.fn (flw_1 (by decide) rfl) rfl ?_
      refine ev_W.fn (flw_1 (by decide) rfl) rfl ?_
      refine ev_W.fn (flw_1 (by decide) rfl) rfl ?_
      refine ev_W.sldN (flw_1 (by decide) rfl) (nI_1 _) (by omega) (by omega) e1 ?_
      refine ev_W.fn (flw_2 (by decide) rfl) rfl ?_
      refine ev_W.fn (flw_2 (by decide) rfl) rfl ?_
      refine ev_W.fn (flw_2 (by decide) rfl) rfl ?_
      refine ev_W.fn (flw_2 (by decide) rfl) rfl ?_
      refine ev_W.sldN (flw_2 (by decide) rfl) (nI_add _ 2) (by omega) (by omega) rfl ?_
      refine ev_W.brF (flw_2 (by decide) rfl) rfl hb ?_
      refine ev_W.fn (flw_2 (by decide) rfl) rfl ?_
      refine ev_W.fn (flw_2 (by decide) rfl) rfl ?_
      refine ev_W.fn (flw_2 (by decide) rfl) rfl ?_
      refine ev_W.fn (flw_2 (by decide) rfl) rfl ?_
      refine ev_W.fn (flw_2 (by decide) rfl) rfl ?_
      refine ev_W.fn (flw_2 (by decide) rfl) rfl ?_
      refine ev_W.sldN (flw_2 (by decide) rfl) (nI_add _ 3) (by omega) (by omega) rfl ?_
      refine ev_W.fn (flw_2 (by decide) rfl) rfl ?_
      refine ev_W.fn (flw_2 (by decide) rfl) rfl ?_
      refine ev_W.fn (flw_2 (by decide) rfl) rfl ?_
      refine ev_W.fn (flw_2 (by decide) rfl) rfl ?_
      refine ev_W.sldN (flw_2 (by decide) rfl) (nI_add _ 4) (by omega) (by omega) rfl ?_
      refine ev_W.fn (flw_2 (by decide) rfl) rfl ?_
      refine ev_W.fn (flw_2 (by decide) rfl) rfl ?_
      refine ev_W.fn (flw_2 (by decide) rfl) rfl ?_
      refine ev_W.fn (flw_2 (by decide) rfl) rfl ?_
      refine ev_W.sldN (flw_2 (by decide) rfl) (nI_add _ 5) (by omega) (by omega) rfl ?_
      refine ev_W.clR (flw_2 (by decide) rfl) rfl rfl rfl rfl oz ?_
      refine z_con (cl := true) Jm hc (fun h2 Jn => ?_)
      refine ev_W.brT (flw_2 (by decide) rfl) rfl rfl ?_
      exact k _ _ Jn
  · by_cases hb : xs (7 * j + 2) = 0
    · refine ev_W.fn (flw_1 (by decide) rfl) rfl ?_
      refine ev_W.fn (flw_1 (by decide) rfl) rfl ?_
      refine ev_W.fn (flw_1 (by decide) rfl) rfl ?_
      refine ev_W.fn (flw_1 (by decide) rfl) rfl ?_
      refine ev_W.fn (flw_1 (by decide) rfl) rfl ?_
      refine ev_W.sldN (flw_1 (by decide) rfl) (nI_1 _) (by omega) (by omega) rfl ?_
      refine ev_W.fn (flw_1 (by decide) rfl) rfl ?_
      refine ev_W.fn (flw_1 (by decide) rfl) rfl ?_
      refine ev_W.fn (flw_1 (by decide) rfl) rfl ?_
      refine ev_W.fn (flw_1 (by decide) rfl) rfl ?_
      refine ev_W.sldN (flw_1 (by decide) rfl) (nI_add _ 2) (by omega) (by omega) rfl ?_
      refine ev_W.brT (flw_1 (by decide) rfl) rfl hb ?_
      refine ev_W.fn (flw_1 (by decide) rfl) rfl ?_
      refine ev_W.fn (flw_1 (by decide) rfl) rfl ?_
      refine ev_W.fn (flw_1 (by decide) rfl) rfl ?_
      refine ev_W.fn (flw_1 (by decide) rfl) rfl ?_
      refine ev_W.fn (flw_1 (by decide) rfl) rfl ?_
      refine ev_W.sldN (flw_1 (by decide) rfl) (nI_add _ 3) (by omega) (by omega) rfl ?_
      refine ev_W.fn (flw_1 (by decide) rfl) rfl ?_
      refine ev_W.fn (flw_1 (by decide) rfl) rfl ?_
      refine ev_W.fn (flw_1 (by decide) rfl) rfl ?_
      refine ev_W.fn (flw_1 (by decide) rfl) rfl ?_
      refine ev_W.sldN (flw_1 (by decide) rfl) (nI_add _ 4) (by omega) (by omega) rfl ?_
      refine ev_W.fn (flw_1 (by decide) rfl) rfl ?_
      refine ev_W.fn (flw_1 (by decide) rfl) rfl ?_
      refine ev_W.fn (flw_1 (by decide) rfl) rfl ?_
      refine ev_W.fn (flw_1 (by decide) rfl) rfl ?_
      refine ev_W.sldN (flw_1 (by decide) rfl) (nI_add _ 5) (by omega) (by omega) rfl ?_
      refine ev_W.clR (flw_1 (by decide) rfl) rfl rfl rfl rfl oc ?_
      refine c_con0 (b := false) J hx ?_
      have Jm := J.same
      obtain ⟨fz, oz⟩ := Jm.o
      refine ev_W.fn (flw_1 (by decide) rfl) rfl ?_
      refine ev_W.fn (flw_1 (by decide) rfl) rfl ?_
      refine ev_W.fn (flw_1 (by decide) rfl) rfl ?_
      refine ev_W.fn (flw_1 (by decide) rfl) rfl ?_
      refine ev_W.fn (flw_1 (by decide) rfl) rfl ?_
      refine ev_W.sldN (flw_1 (by decide) rfl) (nI_1 _) (by omega) (by omega) rfl ?_
      refine ev_W.fn (flw_2 (by decide) rfl) rfl ?_
      refine ev_W.fn (flw_2 (by decide) rfl) rfl ?_
      refine ev_W.fn (flw_2 (by decide) rfl) rfl ?_
      refine ev_W.fn (flw_2 (by decide) rfl) rfl ?_
      refine ev_W.sldN (flw_2 (by decide) rfl) (nI_add _ 2) (by omega) (by omega) rfl ?_
      refine ev_W.brT (flw_2 (by decide) rfl) rfl hb ?_
      refine ev_W.fn (flw_2 (by decide) rfl) rfl ?_
      refine ev_W.fn (flw_2 (by decide) rfl) rfl ?_
      refine ev_W.fn (flw_2 (by decide) rfl) rfl ?_
      refine ev_W.fn (flw_2 (by decide) rfl) rfl ?_
      refine ev_W.fn (flw_2 (by decide) rfl) rfl ?_
      refine ev_W.sldN (flw_2 (by decide) rfl) (nI_add _ 3) (by omega) (by omega) rfl ?_
      refine ev_W.fn (flw_2 (by decide) rfl) rfl ?_
      refine ev_W.fn (flw_2 (by decide) rfl) rfl ?_
      refine ev_W.fn (flw_2 (by decide) rfl) rfl ?_
      refine ev_W.fn (flw_2 (by decide) rfl) rfl ?_
      refine ev_W.sldN (flw_2 (by decide) rfl) (nI_add _ 4) (by omega) (by omega) rfl ?_
      refine ev_W.fn (flw_2 (by decide) rfl) rfl ?_
      refine ev_W.fn (flw_2 (by decide) rfl) rfl ?_
      refine ev_W.fn (flw_2 (by decide) rfl) rfl ?_
      refine ev_W.fn (flw_2 (by decide) rfl) rfl ?_
      refine ev_W.sldN (flw_2 (by decide) rfl) (nI_add _ 5) (by omega) (by omega) rfl ?_
      refine ev_W.clR (flw_2 (by decide) rfl) rfl rfl rfl rfl oz ?_
      refine z_con0 (b := false) Jm hx ?_
      have Jn := Jm.same
      refine ev_W.fn (flw_2 (by decide) rfl) rfl ?_
      exact k _ _ Jn
    · refine ev_W.fn (flw_1 (by decide) rfl) rfl ?_
      refine ev_W.fn (flw_1 (by decide) rfl) rfl ?_
      refine ev_W.fn (flw_1 (by decide) rfl) rfl ?_
      refine ev_W.fn (flw_1 (by decide) rfl) rfl ?_
      refine ev_W.fn (flw_1 (by decide) rfl) rfl ?_
      refine ev_W.sldN (flw_1 (by decide) rfl) (nI_1 _) (by omega) (by omega) rfl ?_
      refine ev_W.fn (flw_1 (by decide) rfl) rfl ?_
      refine ev_W.fn (flw_1 (by decide) rfl) rfl ?_
      refine ev_W.fn (flw_1 (by decide) rfl) rfl ?_
      refine ev_W.fn (flw_1 (by decide) rfl) rfl ?_
      refine ev_W.sldN (flw_1 (by decide) rfl) (nI_add _ 2) (by omega) (by omega) rfl ?_
      refine ev_W.brF (flw_1 (by decide) rfl) rfl hb ?_
      refine ev_W.fn (flw_1 (by decide) rfl) rfl ?_
      refine ev_W.fn (flw_1 (by decide) rfl) rfl ?_
      refine ev_W.fn (flw_1 (by decide) rfl) rfl ?_
      refine ev_W.fn (flw_1 (by decide) rfl) rfl ?_
      refine ev_W.fn (flw_1 (by decide) rfl) rfl ?_
      refine ev_W.fn (flw_1 (by decide) rfl) rfl ?_
      refine ev_W.sldN (flw_1 (by decide) rfl) (nI_add _ 3) (by omega) (by omega) rfl ?_
      refine ev_W.fn (flw_1 (by decide) rfl) rfl ?_
      refine ev_W.fn (flw_1 (by decide) rfl) rfl ?_
      refine ev_W.fn (flw_1 (by decide) rfl) rfl ?_
      refine ev_W.fn (flw_1 (by decide) rfl) rfl ?_
      refine ev_W.sldN (flw_1 (by decide) rfl) (nI_add _ 4) (by omega) (by omega) rfl ?_
      refine ev_W.fn (flw_1 (by decide) rfl) rfl ?_
      refine ev_W.fn (flw_1 (by decide) rfl) rfl ?_
      refine ev_W.fn (flw_1 (by decide) rfl) rfl ?_
      refine ev_W.fn (flw_1 (by decide) rfl) rfl ?_
      refine ev_W.sldN (flw_1 (by decide) rfl) (nI_add _ 5) (by omega) (by omega) rfl ?_
      refine ev_W.clR (flw_1 (by decide) rfl) rfl rfl rfl rfl oc ?_
      refine c_con0 (b := true) J hx ?_
      have Jm := J.same
      obtain ⟨fz, oz⟩ := Jm.o
      refine ev_W.fn (flw_1 (by decide) rfl) rfl ?_
      refine ev_W.fn (flw_1 (by decide) rfl) rfl ?_
      refine ev_W.fn (flw_1 (by decide) rfl) rfl ?_
      refine ev_W.fn (flw_1 (by decide) rfl) rfl ?_
      refine ev_W.fn (flw_1 (by decide) rfl) rfl ?_
      refine ev_W.sldN (flw_1 (by decide) rfl) (nI_1 _) (by omega) (by omega) rfl ?_
      refine ev_W.fn (flw_2 (by decide) rfl) rfl ?_
      refine ev_W.fn (flw_2 (by decide) rfl) rfl ?_
      refine ev_W.fn (flw_2 (by decide) rfl) rfl ?_
      refine ev_W.fn (flw_2 (by decide) rfl) rfl ?_
      refine ev_W.sldN (flw_2 (by decide) rfl) (nI_add _ 2) (by omega) (by omega) rfl ?_
      refine ev_W.brF (flw_2 (by decide) rfl) rfl hb ?_
      refine ev_W.fn (flw_2 (by decide) rfl) rfl ?_
      refine ev_W.fn (flw_2 (by decide) rfl) rfl ?_
      refine ev_W.fn (flw_2 (by decide) rfl) rfl ?_
      refine ev_W.fn (flw_2 (by decide) rfl) rfl ?_
      refine ev_W.fn (flw_2 (by decide) rfl) rfl ?_
      refine ev_W.fn (flw_2 (by decide) rfl) rfl ?_
      refine ev_W.sldN (flw_2 (by decide) rfl) (nI_add _ 3) (by omega) (by omega) rfl ?_
      refine ev_W.fn (flw_2 (by decide) rfl) rfl ?_
      refine ev_W.fn (flw_2 (by decide) rfl) rfl ?_
      refine ev_W.fn (flw_2 (by decide) rfl) rfl ?_
      refine ev_W.fn (flw_2 (by decide) rfl) rfl ?_
      refine ev_W.sldN (flw_2 (by decide) rfl) (nI_add _ 4) (by omega) (by omega) rfl ?_
      refine ev_W.fn (flw_2 (by decide) rfl) rfl ?_
      refine ev_W.fn (flw_2 (by decide) rfl) rfl ?_
      refine ev_W.fn (flw_2 (by decide) rfl) rfl ?_
      refine ev_W.fn (flw_2 (by decide) rfl) rfl ?_
      refine ev_W.sldN (flw_2 (by decide) rfl) (nI_add _ 5) (by omega) (by omega) rfl ?_
      refine ev_W.clR (flw_2 (by decide) rfl) rfl rfl rfl rfl oz ?_
      refine z_con0 (b := true) Jm hx ?_
      have Jn := Jm.same
      refine ev_W.fn (flw_2 (by decide) rfl) rfl ?_
      exact k _ _ Jn
theorem law_2 (hN : N < 2 ^ 30) (hj : 7 * j + 7 ≤ Ls) (hL : Ls ≤ 3584) (J : jn z sz N s h) (k : ∀ s' h', jn z sz (N + 1) s' h' → ev_W (mk_law b Ls xs z) (1075, lwL b sz j, [], h') Q) : ev_W (mk_law b Ls xs z) (280, lwL b sz j, [], h) Q := by
  obtain ⟨fc, oc⟩ := J.o
  rcases cli (xs (7 * j + 1)) with ⟨c, hc, e1⟩ | hx
  · refine ev_W.fn (flw_2 (by decide) rfl) rfl ?_
    refine ev_W.fn (flw_2 (by decide) rfl) rfl ?_
    refine ev_W.fn (flw_2 (by decide) rfl) rfl ?_
    refine ev_W.fn (flw_2 (by decide) rfl) rfl ?_
    refine ev_W.fn (flw_2 (by decide) rfl) rfl ?_
    refine ev_W.sldN (flw_2 (by decide) rfl) (nI_1 _) (by omega) (by omega) e1 ?_
    refine ev_W.clR (flw_2 (by decide) rfl) rfl rfl rfl rfl oc ?_
    refine c_drop J hc (fun h1 Jm => ?_)
    obtain ⟨fz, oz⟩ := Jm.o
    refine ev_W.fn (flw_2 (by decide) rfl) rfl ?_
    refine ev_W.fn (flw_2 (by decide) rfl) rfl ?_
    refine ev_W.fn (flw_2 (by decide) rfl) rfl ?_
    refine ev_W.fn (flw_2 (by decide) rfl) rfl ?_
    refine ev_W.fn (flw_2 (by decide) rfl) rfl ?_
    refine ev_W.sldN (flw_2 (by decide) rfl) (nI_1 _) (by omega) (by omega) e1 ?_
    refine ev_W.clR (flw_2 (by decide) rfl) rfl rfl rfl rfl oz ?_
    refine z_drop Jm hc (fun h2 Jn => ?_)
    refine ev_W.brT (flw_2 (by decide) rfl) rfl rfl ?_
    exact k _ _ Jn
  · refine ev_W.fn (flw_2 (by decide) rfl) rfl ?_
    refine ev_W.fn (flw_2 (by decide) rfl) rfl ?_
    refine ev_W.fn (flw_2 (by decide) rfl) rfl ?_
    refine ev_W.fn (flw_2 (by decide) rfl) rfl ?_
    refine ev_W.fn (flw_2 (by decide) rfl) rfl ?_
    refine ev_W.sldN (flw_2 (by decide) rfl) (nI_1 _) (by omega) (by omega) rfl ?_
    refine ev_W.clR (flw_2 (by decide) rfl) rfl rfl rfl rfl oc ?_
    refine c_drop0 J hx ?_
    have Jm := J.same
    obtain ⟨fz, oz⟩ := Jm.o
    refine ev_W.fn (flw_2 (by decide) rfl) rfl ?_
    refine ev_W.fn (flw_2 (by decide) rfl) rfl ?_
    refine ev_W.fn (flw_2 (by decide) rfl) rfl ?_
    refine ev_W.fn (flw_2 (by decide) rfl) rfl ?_
    refine ev_W.fn (flw_2 (by decide) rfl) rfl ?_
    refine ev_W.sldN (flw_2 (by decide) rfl) (nI_1 _) (by omega) (by omega) rfl ?_
    refine ev_W.clR (flw_2 (by decide) rfl) rfl rfl rfl rfl oz ?_
    refine z_drop0 Jm hx ?_
    have Jn := Jm.same
    refine ev_W.fn (flw_2 (by decide) rfl) rfl ?_
    exact k _ _ Jn
theorem law_3 (hN : N < 2 ^ 30) (hj : 7 * j + 7 ≤ Ls) (hL : Ls ≤ 3584) (J : jn z sz N s h) (k : ∀ s' h', jn z sz (N + 1) s' h' → ev_W (mk_law b Ls xs z) (1075, lwL b sz j, [], h') Q) : ev_W (mk_law b Ls xs z) (303, lwL b sz j, [], h) Q := by
  obtain ⟨fc, oc⟩ := J.o
  rcases cli (xs (7 * j + 1)) with ⟨c, hc, e1⟩ | hx
  · refine ev_W.fn (flw_2 (by decide) rfl) rfl ?_
    refine ev_W.fn (flw_2 (by decide) rfl) rfl ?_
    refine ev_W.fn (flw_2 (by decide) rfl) rfl ?_
    refine ev_W.fn (flw_2 (by decide) rfl) rfl ?_
    refine ev_W.fn (flw_2 (by decide) rfl) rfl ?_
    refine ev_W.sldN (flw_2 (by decide) rfl) (nI_1 _) (by omega) (by omega) e1 ?_
    refine ev_W.clR (flw_2 (by decide) rfl) rfl rfl rfl rfl oc ?_
    refine c_leave J hc (fun h1 Jm => ?_)
    obtain ⟨fz, oz⟩ := Jm.o
    refine ev_W.fn (flw_2 (by decide) rfl) rfl ?_
    refine ev_W.fn (flw_2 (by decide) rfl) rfl ?_
    refine ev_W.fn (flw_2 (by decide) rfl) rfl ?_
    refine ev_W.fn (flw_2 (by decide) rfl) rfl ?_
    refine ev_W.fn (flw_2 (by decide) rfl) rfl ?_
    refine ev_W.sldN (flw_2 (by decide) rfl) (nI_1 _) (by omega) (by omega) e1 ?_
    refine ev_W.clR (flw_2 (by decide) rfl) rfl rfl rfl rfl oz ?_
    refine z_leave Jm hc (fun h2 Jn => ?_)
    refine ev_W.brT (flw_2 (by decide) rfl) rfl rfl ?_
    exact k _ _ Jn
  · refine ev_W.fn (flw_2 (by decide) rfl) rfl ?_
    refine ev_W.fn (flw_2 (by decide) rfl) rfl ?_
    refine ev_W.fn (flw_2 (by decide) rfl) rfl ?_
    refine ev_W.fn (flw_2 (by decide) rfl) rfl ?_
    refine ev_W.fn (flw_2 (by decide) rfl) rfl ?_
    refine ev_W.sldN (flw_2 (by decide) rfl) (nI_1 _) (by omega) (by omega) rfl ?_
    refine ev_W.clR (flw_2 (by decide) rfl) rfl rfl rfl rfl oc ?_
    refine c_leave0 J hx ?_
    have Jm := J.same
    obtain ⟨fz, oz⟩ := Jm.o
    refine ev_W.fn (flw_2 (by decide) rfl) rfl ?_
    refine ev_W.fn (flw_2 (by decide) rfl) rfl ?_
    refine ev_W.fn (flw_2 (by decide) rfl) rfl ?_
    refine ev_W.fn (flw_2 (by decide) rfl) rfl ?_
    refine ev_W.fn (flw_2 (by decide) rfl) rfl ?_
    refine ev_W.sldN (flw_2 (by decide) rfl) (nI_1 _) (by omega) (by omega) rfl ?_
    refine ev_W.clR (flw_2 (by decide) rfl) rfl rfl rfl rfl oz ?_
    refine z_leave0 Jm hx ?_
    have Jn := Jm.same
    refine ev_W.fn (flw_2 (by decide) rfl) rfl ?_
    exact k _ _ Jn
theorem law_4 (hN : N < 2 ^ 30) (hj : 7 * j + 7 ≤ Ls) (hL : Ls ≤ 3584) (J : jn z sz N s h) (k : ∀ s' h', jn z sz (N + 1) s' h' → ev_W (mk_law b Ls xs z) (1075, lwL b sz j, [], h') Q) : ev_W (mk_law b Ls xs z) (326, lwL b sz j, [], h) Q := by
  obtain ⟨fc, oc⟩ := J.o
  rcases cli (xs (7 * j + 1)) with ⟨c, hc, e1⟩ | hx
  · refine ev_W.fn (flw_3 (by decide) rfl) rfl ?_
    refine ev_W.fn (flw_3 (by decide) rfl) rfl ?_
    refine ev_W.fn (flw_3 (by decide) rfl) rfl ?_
    refine ev_W.fn (flw_3 (by decide) rfl) rfl ?_
    refine ev_W.fn (flw_3 (by decide) rfl) rfl ?_
    refine ev_W.sldN (flw_3 (by decide) rfl) (nI_1 _) (by omega) (by omega) e1 ?_
    refine ev_W.clR (flw_3 (by decide) rfl) rfl rfl rfl rfl oc ?_
    refine c_ping J hc (fun h1 Jm => ?_)
    obtain ⟨fz, oz⟩ := Jm.o
    refine ev_W.fn (flw_3 (by decide) rfl) rfl ?_
    refine ev_W.fn (flw_3 (by decide) rfl) rfl ?_
    refine ev_W.fn (flw_3 (by decide) rfl) rfl ?_
    refine ev_W.fn (flw_3 (by decide) rfl) rfl ?_
    refine ev_W.fn (flw_3 (by decide) rfl) rfl ?_
    refine ev_W.sldN (flw_3 (by decide) rfl) (nI_1 _) (by omega) (by omega) e1 ?_
    refine ev_W.clR (flw_3 (by decide) rfl) rfl rfl rfl rfl oz ?_
    refine z_ping Jm hc (fun h2 Jn => ?_)
    refine ev_W.brT (flw_3 (by decide) rfl) rfl rfl ?_
    exact k _ _ Jn
  · refine ev_W.fn (flw_3 (by decide) rfl) rfl ?_
    refine ev_W.fn (flw_3 (by decide) rfl) rfl ?_
    refine ev_W.fn (flw_3 (by decide) rfl) rfl ?_
    refine ev_W.fn (flw_3 (by decide) rfl) rfl ?_
    refine ev_W.fn (flw_3 (by decide) rfl) rfl ?_
    refine ev_W.sldN (flw_3 (by decide) rfl) (nI_1 _) (by omega) (by omega) rfl ?_
    refine ev_W.clR (flw_3 (by decide) rfl) rfl rfl rfl rfl oc ?_
    refine c_ping0 J hx ?_
    have Jm := J.same
    obtain ⟨fz, oz⟩ := Jm.o
    refine ev_W.fn (flw_3 (by decide) rfl) rfl ?_
    refine ev_W.fn (flw_3 (by decide) rfl) rfl ?_
    refine ev_W.fn (flw_3 (by decide) rfl) rfl ?_
    refine ev_W.fn (flw_3 (by decide) rfl) rfl ?_
    refine ev_W.fn (flw_3 (by decide) rfl) rfl ?_
    refine ev_W.sldN (flw_3 (by decide) rfl) (nI_1 _) (by omega) (by omega) rfl ?_
    refine ev_W.clR (flw_3 (by decide) rfl) rfl rfl rfl rfl oz ?_
    refine z_ping0 Jm hx ?_
    have Jn := Jm.same
    refine ev_W.fn (flw_3 (by decide) rfl) rfl ?_
    exact k _ _ Jn
theorem law_5 (hN : N < 2 ^ 30) (hj : 7 * j + 7 ≤ Ls) (hL : Ls ≤ 3584) (J : jn z sz N s h) (k : ∀ s' h', jn z sz (N + 1) s' h' → ev_W (mk_law b Ls xs z) (1075, lwL b sz j, [], h') Q) : ev_W (mk_law b Ls xs z) (349, lwL b sz j, [], h) Q := by
  obtain ⟨fc, oc⟩ := J.o
  rcases cli (xs (7 * j + 1)) with ⟨c, hc, e1⟩ | hx
  · by_cases hb : xs (7 * j + 5) = 0
    · refine ev_W.fn (flw_3 (by decide) rfl) rfl ?_
      refine ev_W.fn (flw_3 (by decide) rfl) rfl ?_
      refine ev_W.fn (flw_3 (by decide) rfl) rfl ?_
      refine ev_W.fn (flw_3 (by decide) rfl) rfl ?_
      refine ev_W.fn (flw_3 (by decide) rfl) rfl ?_
      refine ev_W.sldN (flw_3 (by decide) rfl) (nI_1 _) (by omega) (by omega) e1 ?_
      refine ev_W.fn (flw_3 (by decide) rfl) rfl ?_
      refine ev_W.fn (flw_3 (by decide) rfl) rfl ?_
      refine ev_W.fn (flw_3 (by decide) rfl) rfl ?_
      refine ev_W.fn (flw_3 (by decide) rfl) rfl ?_
      refine ev_W.sldN (flw_3 (by decide) rfl) (nI_add _ 2) (by omega) (by omega) rfl ?_
      refine ev_W.fn (flw_3 (by decide) rfl) rfl ?_
      refine ev_W.fn (flw_3 (by decide) rfl) rfl ?_
      refine ev_W.fn (flw_3 (by decide) rfl) rfl ?_
      refine ev_W.fn (flw_3 (by decide) rfl) rfl ?_
      refine ev_W.fn (flw_3 (by decide) rfl) rfl ?_
      refine ev_W.fn (flw_3 (by decide) rfl) rfl ?_
      refine ev_W.fn (flw_3 (by decide) rfl) rfl ?_
      refine ev_W.sldN (flw_3 (by decide) rfl) (nI_add _ 3) (by omega) (by omega) rfl ?_
      refine ev_W.fn (flw_3 (by decide) rfl) rfl ?_
      refine ev_W.fn (flw_3 (by decide) rfl) rfl ?_
      refine ev_W.fn (flw_3 (by decide) rfl) rfl ?_
      refine ev_W.fn (flw_3 (by decide) rfl) rfl ?_
      refine ev_W.fn (flw_3 (by decide) rfl) rfl ?_
      refine ev_W.fn (flw_3 (by decide) rfl) rfl ?_
      refine ev_W.fn (flw_3 (by decide) rfl) rfl ?_
      refine ev_W.fn (flw_3 (by decide) rfl) rfl ?_
      refine ev_W.sldN (flw_3 (by decide) rfl) (nI_add _ 4) (by omega) (by omega) rfl ?_
      refine ev_W.fn (flw_3 (by decide) rfl) rfl ?_
      refine ev_W.fn (flw_3 (by decide) rfl) rfl ?_
      refine ev_W.fn (flw_3 (by decide) rfl) rfl ?_
      refine ev_W.fn (flw_3 (by decide) rfl) rfl ?_
      refine ev_W.sldN (flw_3 (by decide) rfl) (nI_add _ 5) (by omega) (by omega) rfl ?_
      refine ev_W.brT (flw_3 (by decide) rfl) rfl hb ?_
      refine ev_W.fn (flw_3 (by decide) rfl) rfl ?_
      refine ev_W.clR (flw_3 (by decide) rfl) rfl rfl rfl rfl oc ?_
      refine c_sub (b := false) J hc (fun h1 Jm => ?_)
      obtain ⟨fz, oz⟩ := Jm.o
      refine ev_W.fn (flw_3 (by decide) rfl) rfl ?_
      refine ev_W.fn (flw_3 (by decide) rfl) rfl ?_
      refine ev_W.fn (flw_3 (by decide) rfl) rfl ?_
      refine ev_W.fn (flw_4 (by decide) rfl) rfl ?_
      refine ev_W.fn (flw_4 (by decide) rfl) rfl ?_
      refine ev_W.sldN (flw_4 (by decide) rfl) (nI_1 _) (by omega) (by omega) e1 ?_
      refine ev_W.fn (flw_4 (by decide) rfl) rfl ?_
      refine ev_W.fn (flw_4 (by decide) rfl) rfl ?_
      refine ev_W.fn (flw_4 (by decide) rfl) rfl ?_
      refine ev_W.fn (flw_4 (by decide) rfl) rfl ?_
      refine ev_W.sldN (flw_4 (by decide) rfl) (nI_add _ 2) (by omega) (by omega) rfl ?_
      refine ev_W.fn (flw_4 (by decide) rfl) rfl ?_
      refine ev_W.fn (flw_4 (by decide) rfl) rfl ?_
      refine ev_W.fn (flw_4 (by decide) rfl) rfl ?_
      refine ev_W.fn (flw_4 (by decide) rfl) rfl ?_
      refine ev_W.fn (flw_4 (by decide) rfl) rfl ?_
      refine ev_W.fn (flw_4 (by decide) rfl) rfl ?_
      refine ev_W.fn (flw_4 (by decide) rfl) rfl ?_
      refine ev_W.sldN (flw_4 (by decide) rfl) (nI_add _ 3) (by omega) (by omega) rfl ?_
      refine ev_W.fn (flw_4 (by decide) rfl) rfl ?_
      refine ev_W.fn (flw_4 (by decide) rfl) rfl ?_
      refine ev_W.fn (flw_4 (by decide) rfl) rfl ?_
      refine ev_W.fn (flw_4 (by decide) rfl) rfl ?_
      refine ev_W.fn (flw_4 (by decide) rfl) rfl ?_
      refine ev_W.fn (flw_4 (by decide) rfl) rfl ?_
      refine ev_W.fn (flw_4 (by decide) rfl) rfl ?_
      refine ev_W.fn (flw_4 (by decide) rfl) rfl ?_
      refine ev_W.sldN (flw_4 (by decide) rfl) (nI_add _ 4) (by omega) (by omega) rfl ?_
      refine ev_W.fn (flw_4 (by decide) rfl) rfl ?_
      refine ev_W.fn (flw_4 (by decide) rfl) rfl ?_
      refine ev_W.fn (flw_4 (by decide) rfl) rfl ?_
      refine ev_W.fn (flw_4 (by decide) rfl) rfl ?_
      refine ev_W.sldN (flw_4 (by decide) rfl) (nI_add _ 5) (by omega) (by omega) rfl ?_
      refine ev_W.brT (flw_4 (by decide) rfl) rfl hb ?_
      refine ev_W.fn (flw_4 (by decide) rfl) rfl ?_
      refine ev_W.clR (flw_4 (by decide) rfl) rfl rfl rfl rfl oz ?_
      refine z_sub (b := false) Jm hc (fun h2 Jn => ?_)
      refine ev_W.brT (flw_4 (by decide) rfl) rfl rfl ?_
      exact k _ _ Jn
    · refine ev_W.fn (flw_3 (by decide) rfl) rfl ?_
      refine ev_W.fn (flw_3 (by decide) rfl) rfl ?_
      refine ev_W.fn (flw_3 (by decide) rfl) rfl ?_
      refine ev_W.fn (flw_3 (by decide) rfl) rfl ?_
      refine ev_W.fn (flw_3 (by decide) rfl) rfl ?_
      refine ev_W.sldN (flw_3 (by decide) rfl) (nI_1 _) (by omega) (by omega) e1 ?_
      refine ev_W.fn (flw_3 (by decide) rfl) rfl ?_
      refine ev_W.fn (flw_3 (by decide) rfl) rfl ?_
      refine ev_W.fn (flw_3 (by decide) rfl) rfl ?_
      refine ev_W.fn (flw_3 (by decide) rfl) rfl ?_
      refine ev_W.sldN (flw_3 (by decide) rfl) (nI_add _ 2) (by omega) (by omega) rfl ?_
      refine ev_W.fn (flw_3 (by decide) rfl) rfl ?_
      refine ev_W.fn (flw_3 (by decide) rfl) rfl ?_
      refine ev_W.fn (flw_3 (by decide) rfl) rfl ?_
      refine ev_W.fn (flw_3 (by decide) rfl) rfl ?_
      refine ev_W.fn (flw_3 (by decide) rfl) rfl ?_
      refine ev_W.fn (flw_3 (by decide) rfl) rfl ?_
      refine ev_W.fn (flw_3 (by decide) rfl) rfl ?_
      refine ev_W.sldN (flw_3 (by decide) rfl) (nI_add _ 3) (by omega) (by omega) rfl ?_
      refine ev_W.fn (flw_3 (by decide) rfl) rfl ?_
      refine ev_W.fn (flw_3 (by decide) rfl) rfl ?_
      refine ev_W.fn (flw_3 (by decide) rfl) rfl ?_
      refine ev_W.fn (flw_3 (by decide) rfl) rfl ?_
      refine ev_W.fn (flw_3 (by decide) rfl) rfl ?_
      refine ev_W.fn (flw_3 (by decide) rfl) rfl ?_
      refine ev_W.fn (flw_3 (by decide) rfl) rfl ?_
      refine ev_W.fn (flw_3 (by decide) rfl) rfl ?_
      refine ev_W.sldN (flw_3 (by decide) rfl) (nI_add _ 4) (by omega) (by omega) rfl ?_
      refine ev_W.fn (flw_3 (by decide) rfl) rfl ?_
      refine ev_W.fn (flw_3 (by decide) rfl) rfl ?_
      refine ev_W.fn (flw_3 (by decide) rfl) rfl ?_
      refine ev_W.fn (flw_3 (by decide) rfl) rfl ?_
      refine ev_W.sldN (flw_3 (by decide) rfl) (nI_add _ 5) (by omega) (by omega) rfl ?_
      refine ev_W.brF (flw_3 (by decide) rfl) rfl hb ?_
      refine ev_W.fn (flw_3 (by decide) rfl) rfl ?_
      refine ev_W.fn (flw_3 (by decide) rfl) rfl ?_
      refine ev_W.clR (flw_3 (by decide) rfl) rfl rfl rfl rfl oc ?_
      refine c_sub (b := true) J hc (fun h1 Jm => ?_)
      obtain ⟨fz, oz⟩ := Jm.o
      refine ev_W.fn (flw_3 (by decide) rfl) rfl ?_
      refine ev_W.fn (flw_3 (by decide) rfl) rfl ?_
      refine ev_W.fn (flw_3 (by decide) rfl) rfl ?_
      refine ev_W.fn (flw_4 (by decide) rfl) rfl ?_
      refine ev_W.fn (flw_4 (by decide) rfl) rfl ?_
      refine ev_W.sldN (flw_4 (by decide) rfl) (nI_1 _) (by omega) (by omega) e1 ?_
      refine ev_W.fn (flw_4 (by decide) rfl) rfl ?_
      refine ev_W.fn (flw_4 (by decide) rfl) rfl ?_
      refine ev_W.fn (flw_4 (by decide) rfl) rfl ?_
      refine ev_W.fn (flw_4 (by decide) rfl) rfl ?_
      refine ev_W.sldN (flw_4 (by decide) rfl) (nI_add _ 2) (by omega) (by omega) rfl ?_
      refine ev_W.fn (flw_4 (by decide) rfl) rfl ?_
      refine ev_W.fn (flw_4 (by decide) rfl) rfl ?_
      refine ev_W.fn (flw_4 (by decide) rfl) rfl ?_
      refine ev_W.fn (flw_4 (by decide) rfl) rfl ?_
      refine ev_W.fn (flw_4 (by decide) rfl) rfl ?_
      refine ev_W.fn (flw_4 (by decide) rfl) rfl ?_
      refine ev_W.fn (flw_4 (by decide) rfl) rfl ?_
      refine ev_W.sldN (flw_4 (by decide) rfl) (nI_add _ 3) (by omega) (by omega) rfl ?_
      refine ev_W.fn (flw_4 (by decide) rfl) rfl ?_
      refine ev_W.fn (flw_4 (by decide) rfl) rfl ?_
      refine ev_W.fn (flw_4 (by decide) rfl) rfl ?_
      refine ev_W.fn (flw_4 (by decide) rfl) rfl ?_
      refine ev_W.fn (flw_4 (by decide) rfl) rfl ?_
      refine ev_W.fn (flw_4 (by decide) rfl) rfl ?_
      refine ev_W.fn (flw_4 (by decide) rfl) rfl ?_
      refine ev_W.fn (flw_4 (by decide) rfl) rfl ?_
      refine ev_W.sldN (flw_4 (by decide) rfl) (nI_add _ 4) (by omega) (by omega) rfl ?_
      refine ev_W.fn (flw_4 (by decide) rfl) rfl ?_
      refine ev_W.fn (flw_4 (by decide) rfl) rfl ?_
      refine ev_W.fn (flw_4 (by decide) rfl) rfl ?_
      refine ev_W.fn (flw_4 (by decide) rfl) rfl ?_
      refine ev_W.sldN (flw_4 (by decide) rfl) (nI_add _ 5) (by omega) (by omega) rfl ?_
      refine ev_W.brF (flw_4 (by decide) rfl) rfl hb ?_
      refine ev_W.fn (flw_4 (by decide) rfl) rfl ?_
      refine ev_W.fn (flw_4 (by decide) rfl) rfl ?_
      refine ev_W.clR (flw_4 (by decide) rfl) rfl rfl rfl rfl oz ?_
      refine z_sub (b := true) Jm hc (fun h2 Jn => ?_)
      refine ev_W.brT (flw_4 (by decide) rfl) rfl rfl ?_
      exact k _ _ Jn
  · by_cases hb : xs (7 * j + 5) = 0
    · refine ev_W.fn (flw_3 (by decide) rfl) rfl ?_
      refine ev_W.fn (flw_3 (by decide) rfl) rfl ?_
      refine ev_W.fn (flw_3 (by decide) rfl) rfl ?_
      refine ev_W.fn (flw_3 (by decide) rfl) rfl ?_
      refine ev_W.fn (flw_3 (by decide) rfl) rfl ?_
      refine ev_W.sldN (flw_3 (by decide) rfl) (nI_1 _) (by omega) (by omega) rfl ?_
      refine ev_W.fn (flw_3 (by decide) rfl) rfl ?_
      refine ev_W.fn (flw_3 (by decide) rfl) rfl ?_
      refine ev_W.fn (flw_3 (by decide) rfl) rfl ?_
      refine ev_W.fn (flw_3 (by decide) rfl) rfl ?_
      refine ev_W.sldN (flw_3 (by decide) rfl) (nI_add _ 2) (by omega) (by omega) rfl ?_
      refine ev_W.fn (flw_3 (by decide) rfl) rfl ?_
      refine ev_W.fn (flw_3 (by decide) rfl) rfl ?_
      refine ev_W.fn (flw_3 (by decide) rfl) rfl ?_
      refine ev_W.fn (flw_3 (by decide) rfl) rfl ?_
      refine ev_W.fn (flw_3 (by decide) rfl) rfl ?_
      refine ev_W.fn (flw_3 (by decide) rfl) rfl ?_
      refine ev_W.fn (flw_3 (by decide) rfl) rfl ?_
      refine ev_W.sldN (flw_3 (by decide) rfl) (nI_add _ 3) (by omega) (by omega) rfl ?_
      refine ev_W.fn (flw_3 (by decide) rfl) rfl ?_
      refine ev_W.fn (flw_3 (by decide) rfl) rfl ?_
      refine ev_W.fn (flw_3 (by decide) rfl) rfl ?_
      refine ev_W.fn (flw_3 (by decide) rfl) rfl ?_
      refine ev_W.fn (flw_3 (by decide) rfl) rfl ?_
      refine ev_W.fn (flw_3 (by decide) rfl) rfl ?_
      refine ev_W.fn (flw_3 (by decide) rfl) rfl ?_
      refine ev_W.fn (flw_3 (by decide) rfl) rfl ?_
      refine ev_W.sldN (flw_3 (by decide) rfl) (nI_add _ 4) (by omega) (by omega) rfl ?_
      refine ev_W.fn (flw_3 (by decide) rfl) rfl ?_
      refine ev_W.fn (flw_3 (by decide) rfl) rfl ?_
      refine ev_W.fn (flw_3 (by decide) rfl) rfl ?_
      refine ev_W.fn (flw_3 (by decide) rfl) rfl ?_
      refine ev_W.sldN (flw_3 (by decide) rfl) (nI_add _ 5) (by omega) (by omega) rfl ?_
      refine ev_W.brT (flw_3 (by decide) rfl) rfl hb ?_
      refine ev_W.fn (flw_3 (by decide) rfl) rfl ?_
      refine ev_W.clR (flw_3 (by decide) rfl) rfl rfl rfl rfl oc ?_
      refine c_sub0 (b := false) J hx ?_
      have Jm := J.same
      obtain ⟨fz, oz⟩ := Jm.o
      refine ev_W.fn (flw_3 (by decide) rfl) rfl ?_
      refine ev_W.fn (flw_3 (by decide) rfl) rfl ?_
      refine ev_W.fn (flw_3 (by decide) rfl) rfl ?_
      refine ev_W.fn (flw_4 (by decide) rfl) rfl ?_
      refine ev_W.fn (flw_4 (by decide) rfl) rfl ?_
      refine ev_W.sldN (flw_4 (by decide) rfl) (nI_1 _) (by omega) (by omega) rfl ?_
      refine ev_W.fn (flw_4 (by decide) rfl) rfl ?_
      refine ev_W.fn (flw_4 (by decide) rfl) rfl ?_
      refine ev_W.fn (flw_4 (by decide) rfl) rfl ?_
      refine ev_W.fn (flw_4 (by decide) rfl) rfl ?_
      refine ev_W.sldN (flw_4 (by decide) rfl) (nI_add _ 2) (by omega) (by omega) rfl ?_
      refine ev_W.fn (flw_4 (by decide) rfl) rfl ?_
      refine ev_W.fn (flw_4 (by decide) rfl) rfl ?_
      refine ev_W.fn (flw_4 (by decide) rfl) rfl ?_
      refine ev_W.fn (flw_4 (by decide) rfl) rfl ?_
      refine ev_W.fn (flw_4 (by decide) rfl) rfl ?_
      refine ev_W.fn (flw_4 (by decide) rfl) rfl ?_
      refine ev_W.fn (flw_4 (by decide) rfl) rfl ?_
      refine ev_W.sldN (flw_4 (by decide) rfl) (nI_add _ 3) (by omega) (by omega) rfl ?_
      refine ev_W.fn (flw_4 (by decide) rfl) rfl ?_
      refine ev_W.fn (flw_4 (by decide) rfl) rfl ?_
      refine ev_W.fn (flw_4 (by decide) rfl) rfl ?_
      refine ev_W.fn (flw_4 (by decide) rfl) rfl ?_
      refine ev_W.fn (flw_4 (by decide) rfl) rfl ?_
      refine ev_W.fn (flw_4 (by decide) rfl) rfl ?_
      refine ev_W.fn (flw_4 (by decide) rfl) rfl ?_
      refine ev_W.fn (flw_4 (by decide) rfl) rfl ?_
      refine ev_W.sldN (flw_4 (by decide) rfl) (nI_add _ 4) (by omega) (by omega) rfl ?_
      refine ev_W.fn (flw_4 (by decide) rfl) rfl ?_
      refine ev_W.fn (flw_4 (by decide) rfl) rfl ?_
      refine ev_W.fn (flw_4 (by decide) rfl) rfl ?_
      refine ev_W.fn (flw_4 (by decide) rfl) rfl ?_
      refine ev_W.sldN (flw_4 (by decide) rfl) (nI_add _ 5) (by omega) (by omega) rfl ?_
      refine ev_W.brT (flw_4 (by decide) rfl) rfl hb ?_
      refine ev_W.fn (flw_4 (by decide) rfl) rfl ?_
      refine ev_W.clR (flw_4 (by decide) rfl) rfl rfl rfl rfl oz ?_
      refine z_sub0 (b := false) Jm hx ?_
      have Jn := Jm.same
      refine ev_W.fn (flw_4 (by decide) rfl) rfl ?_
      exact k _ _ Jn
    · refine ev_W.fn (flw_3 (by decide) rfl) rfl ?_
      refine ev_W.fn (flw_3 (by decide) rfl) rfl ?_
      refine ev_W.fn (flw_3 (by decide) rfl) rfl ?_
      refine ev_W.fn (flw_3 (by decide) rfl) rfl ?_
      refine ev_W.fn (flw_3 (by decide) rfl) rfl ?_
      refine ev_W.sldN (flw_3 (by decide) rfl) (nI_1 _) (by omega) (by omega) rfl ?_
      refine ev_W.fn (flw_3 (by decide) rfl) rfl ?_
      refine ev_W.fn (flw_3 (by decide) rfl) rfl ?_
      refine ev_W.fn (flw_3 (by decide) rfl) rfl ?_
      refine ev_W.fn (flw_3 (by decide) rfl) rfl ?_
      refine ev_W.sldN (flw_3 (by decide) rfl) (nI_add _ 2) (by omega) (by omega) rfl ?_
      refine ev_W.fn (flw_3 (by decide) rfl) rfl ?_
      refine ev_W.fn (flw_3 (by decide) rfl) rfl ?_
      refine ev_W.fn (flw_3 (by decide) rfl) rfl ?_
      refine ev_W.fn (flw_3 (by decide) rfl) rfl ?_
      refine ev_W.fn (flw_3 (by decide) rfl) rfl ?_
      refine ev_W.fn (flw_3 (by decide) rfl) rfl ?_
      refine ev_W.fn (flw_3 (by decide) rfl) rfl ?_
      refine ev_W.sldN (flw_3 (by decide) rfl) (nI_add _ 3) (by omega) (by omega) rfl ?_
      refine ev_W.fn (flw_3 (by decide) rfl) rfl ?_
      refine ev_W.fn (flw_3 (by decide) rfl) rfl ?_
      refine ev_W.fn (flw_3 (by decide) rfl) rfl ?_
      refine ev_W.fn (flw_3 (by decide) rfl) rfl ?_
      refine ev_W.fn (flw_3 (by decide) rfl) rfl ?_
      refine ev_W.fn (flw_3 (by decide) rfl) rfl ?_
      refine ev_W.fn (flw_3 (by decide) rfl) rfl ?_
      refine ev_W.fn (flw_3 (by decide) rfl) rfl ?_
      refine ev_W.sldN (flw_3 (by decide) rfl) (nI_add _ 4) (by omega) (by omega) rfl ?_
      refine ev_W.fn (flw_3 (by decide) rfl) rfl ?_
      refine ev_W.fn (flw_3 (by decide) rfl) rfl ?_
      refine ev_W.fn (flw_3 (by decide) rfl) rfl ?_
      refine ev_W.fn (flw_3 (by decide) rfl) rfl ?_
      refine ev_W.sldN (flw_3 (by decide) rfl) (nI_add _ 5) (by omega) (by omega) rfl ?_
      refine ev_W.brF (flw_3 (by decide) rfl) rfl hb ?_
      refine ev_W.fn (flw_3 (by decide) rfl) rfl ?_
      refine ev_W.fn (flw_3 (by decide) rfl) rfl ?_
      refine ev_W.clR (flw_3 (by decide) rfl) rfl rfl rfl rfl oc ?_
      refine c_sub0 (b := true) J hx ?_
      have Jm := J.same
      obtain ⟨fz, oz⟩ := Jm.o
      refine ev_W.fn (flw_3 (by decide) rfl) rfl ?_
      refine ev_W.fn (flw_3 (by decide) rfl) rfl ?_
      refine ev_W.fn (flw_3 (by decide) rfl) rfl ?_
      refine ev_W.fn (flw_4 (by decide) rfl) rfl ?_
      refine ev_W.fn (flw_4 (by decide) rfl) rfl ?_
      refine ev_W.sldN (flw_4 (by decide) rfl) (nI_1 _) (by omega) (by omega) rfl ?_
      refine ev_W.fn (flw_4 (by decide) rfl) rfl ?_
      refine ev_W.fn (flw_4 (by decide) rfl) rfl ?_
      refine ev_W.fn (flw_4 (by decide) rfl) rfl ?_
      refine ev_W.fn (flw_4 (by decide) rfl) rfl ?_
      refine ev_W.sldN (flw_4 (by decide) rfl) (nI_add _ 2) (by omega) (by omega) rfl ?_
      refine ev_W.fn (flw_4 (by decide) rfl) rfl ?_
      refine ev_W.fn (flw_4 (by decide) rfl) rfl ?_
      refine ev_W.fn (flw_4 (by decide) rfl) rfl ?_
      refine ev_W.fn (flw_4 (by decide) rfl) rfl ?_
      refine ev_W.fn (flw_4 (by decide) rfl) rfl ?_
      refine ev_W.fn (flw_4 (by decide) rfl) rfl ?_
      refine ev_W.fn (flw_4 (by decide) rfl) rfl ?_
      refine ev_W.sldN (flw_4 (by decide) rfl) (nI_add _ 3) (by omega) (by omega) rfl ?_
      refine ev_W.fn (flw_4 (by decide) rfl) rfl ?_
      refine ev_W.fn (flw_4 (by decide) rfl) rfl ?_
      refine ev_W.fn (flw_4 (by decide) rfl) rfl ?_
      refine ev_W.fn (flw_4 (by decide) rfl) rfl ?_
      refine ev_W.fn (flw_4 (by decide) rfl) rfl ?_
      refine ev_W.fn (flw_4 (by decide) rfl) rfl ?_
      refine ev_W.fn (flw_4 (by decide) rfl) rfl ?_
      refine ev_W.fn (flw_4 (by decide) rfl) rfl ?_
      refine ev_W.sldN (flw_4 (by decide) rfl) (nI_add _ 4) (by omega) (by omega) rfl ?_
      refine ev_W.fn (flw_4 (by decide) rfl) rfl ?_
      refine ev_W.fn (flw_4 (by decide) rfl) rfl ?_
      refine ev_W.fn (flw_4 (by decide) rfl) rfl ?_
      refine ev_W.fn (flw_4 (by decide) rfl) rfl ?_
      refine ev_W.sldN (flw_4 (by decide) rfl) (nI_add _ 5) (by omega) (by omega) rfl ?_
      refine ev_W.brF (flw_4 (by decide) rfl) rfl hb ?_
      refine ev_W.fn (flw_4 (by decide) rfl) rfl ?_
      refine ev_W.fn (flw_4 (by decide) rfl) rfl ?_
      refine ev_W.clR (flw_4 (by decide) rfl) rfl rfl rfl rfl oz ?_
      refine z_sub0 (b := true) Jm hx ?_
      have Jn := Jm.same
      refine ev_W.fn (flw_4 (by decide) rfl) rfl ?_
      exact k _ _ Jn
theorem law_6 (hN : N < 2 ^ 30) (hj : 7 * j + 7 ≤ Ls) (hL : Ls ≤ 3584) (J : jn z sz N s h) (k : ∀ s' h', jn z sz (N + 1) s' h' → ev_W (mk_law b Ls xs z) (1075, lwL b sz j, [], h') Q) : ev_W (mk_law b Ls xs z) (448, lwL b sz j, [], h) Q := by
  obtain ⟨fc, oc⟩ := J.o
  rcases cli (xs (7 * j + 1)) with ⟨c, hc, e1⟩ | hx
  · refine ev_W.fn (flw_4 (by decide) rfl) rfl ?_
    refine ev_W.fn (flw_4 (by decide) rfl) rfl ?_
    refine ev_W.fn (flw_4 (by decide) rfl) rfl ?_
    refine ev_W.fn (flw_4 (by decide) rfl) rfl ?_
    refine ev_W.fn (flw_4 (by decide) rfl) rfl ?_
    refine ev_W.sldN (flw_4 (by decide) rfl) (nI_1 _) (by omega) (by omega) e1 ?_
    refine ev_W.fn (flw_4 (by decide) rfl) rfl ?_
    refine ev_W.fn (flw_4 (by decide) rfl) rfl ?_
    refine ev_W.fn (flw_4 (by decide) rfl) rfl ?_
    refine ev_W.fn (flw_4 (by decide) rfl) rfl ?_
    refine ev_W.sldN (flw_4 (by decide) rfl) (nI_add _ 2) (by omega) (by omega) rfl ?_
    refine ev_W.fn (flw_4 (by decide) rfl) rfl ?_
    refine ev_W.fn (flw_4 (by decide) rfl) rfl ?_
    refine ev_W.fn (flw_4 (by decide) rfl) rfl ?_
    refine ev_W.fn (flw_4 (by decide) rfl) rfl ?_
    refine ev_W.fn (flw_4 (by decide) rfl) rfl ?_
    refine ev_W.fn (flw_4 (by decide) rfl) rfl ?_
    refine ev_W.fn (flw_4 (by decide) rfl) rfl ?_
    refine ev_W.sldN (flw_4 (by decide) rfl) (nI_add _ 3) (by omega) (by omega) rfl ?_
    refine ev_W.fn (flw_4 (by decide) rfl) rfl ?_
    refine ev_W.fn (flw_4 (by decide) rfl) rfl ?_
    refine ev_W.fn (flw_4 (by decide) rfl) rfl ?_
    refine ev_W.fn (flw_5 (by decide) rfl) rfl ?_
    refine ev_W.clR (flw_5 (by decide) rfl) rfl rfl rfl rfl oc ?_
    refine c_uns J hc (fun h1 Jm => ?_)
    obtain ⟨fz, oz⟩ := Jm.o
    refine ev_W.fn (flw_5 (by decide) rfl) rfl ?_
    refine ev_W.fn (flw_5 (by decide) rfl) rfl ?_
    refine ev_W.fn (flw_5 (by decide) rfl) rfl ?_
    refine ev_W.fn (flw_5 (by decide) rfl) rfl ?_
    refine ev_W.fn (flw_5 (by decide) rfl) rfl ?_
    refine ev_W.sldN (flw_5 (by decide) rfl) (nI_1 _) (by omega) (by omega) e1 ?_
    refine ev_W.fn (flw_5 (by decide) rfl) rfl ?_
    refine ev_W.fn (flw_5 (by decide) rfl) rfl ?_
    refine ev_W.fn (flw_5 (by decide) rfl) rfl ?_
    refine ev_W.fn (flw_5 (by decide) rfl) rfl ?_
    refine ev_W.sldN (flw_5 (by decide) rfl) (nI_add _ 2) (by omega) (by omega) rfl ?_
    refine ev_W.fn (flw_5 (by decide) rfl) rfl ?_
    refine ev_W.fn (flw_5 (by decide) rfl) rfl ?_
    refine ev_W.fn (flw_5 (by decide) rfl) rfl ?_
    refine ev_W.fn (flw_5 (by decide) rfl) rfl ?_
    refine ev_W.fn (flw_5 (by decide) rfl) rfl ?_
    refine ev_W.fn (flw_5 (by decide) rfl) rfl ?_
    refine ev_W.fn (flw_5 (by decide) rfl) rfl ?_
    refine ev_W.sldN (flw_5 (by decide) rfl) (nI_add _ 3) (by omega) (by omega) rfl ?_
    refine ev_W.fn (flw_5 (by decide) rfl) rfl ?_
    refine ev_W.fn (flw_5 (by decide) rfl) rfl ?_
    refine ev_W.fn (flw_5 (by decide) rfl) rfl ?_
    refine ev_W.fn (flw_5 (by decide) rfl) rfl ?_
    refine ev_W.clR (flw_5 (by decide) rfl) rfl rfl rfl rfl oz ?_
    refine z_uns Jm hc (fun h2 Jn => ?_)
    refine ev_W.brT (flw_5 (by decide) rfl) rfl rfl ?_
    exact k _ _ Jn
  · refine ev_W.fn (flw_4 (by decide) rfl) rfl ?_
    refine ev_W.fn (flw_4 (by decide) rfl) rfl ?_
    refine ev_W.fn (flw_4 (by decide) rfl) rfl ?_
    refine ev_W.fn (flw_4 (by decide) rfl) rfl ?_
    refine ev_W.fn (flw_4 (by decide) rfl) rfl ?_
    refine ev_W.sldN (flw_4 (by decide) rfl) (nI_1 _) (by omega) (by omega) rfl ?_
    refine ev_W.fn (flw_4 (by decide) rfl) rfl ?_
    refine ev_W.fn (flw_4 (by decide) rfl) rfl ?_
    refine ev_W.fn (flw_4 (by decide) rfl) rfl ?_
    refine ev_W.fn (flw_4 (by decide) rfl) rfl ?_
    refine ev_W.sldN (flw_4 (by decide) rfl) (nI_add _ 2) (by omega) (by omega) rfl ?_
    refine ev_W.fn (flw_4 (by decide) rfl) rfl ?_
    refine ev_W.fn (flw_4 (by decide) rfl) rfl ?_
    refine ev_W.fn (flw_4 (by decide) rfl) rfl ?_
    refine ev_W.fn (flw_4 (by decide) rfl) rfl ?_
    refine ev_W.fn (flw_4 (by decide) rfl) rfl ?_
    refine ev_W.fn (flw_4 (by decide) rfl) rfl ?_
    refine ev_W.fn (flw_4 (by decide) rfl) rfl ?_
    refine ev_W.sldN (flw_4 (by decide) rfl) (nI_add _ 3) (by omega) (by omega) rfl ?_
    refine ev_W.fn (flw_4 (by decide) rfl) rfl ?_
    refine ev_W.fn (flw_4 (by decide) rfl) rfl ?_
    refine ev_W.fn (flw_4 (by decide) rfl) rfl ?_
    refine ev_W.fn (flw_5 (by decide) rfl) rfl ?_
    refine ev_W.clR (flw_5 (by decide) rfl) rfl rfl rfl rfl oc ?_
    refine c_uns0 J hx ?_
    have Jm := J.same
    obtain ⟨fz, oz⟩ := Jm.o
    refine ev_W.fn (flw_5 (by decide) rfl) rfl ?_
    refine ev_W.fn (flw_5 (by decide) rfl) rfl ?_
    refine ev_W.fn (flw_5 (by decide) rfl) rfl ?_
    refine ev_W.fn (flw_5 (by decide) rfl) rfl ?_
    refine ev_W.fn (flw_5 (by decide) rfl) rfl ?_
    refine ev_W.sldN (flw_5 (by decide) rfl) (nI_1 _) (by omega) (by omega) rfl ?_
    refine ev_W.fn (flw_5 (by decide) rfl) rfl ?_
    refine ev_W.fn (flw_5 (by decide) rfl) rfl ?_
    refine ev_W.fn (flw_5 (by decide) rfl) rfl ?_
    refine ev_W.fn (flw_5 (by decide) rfl) rfl ?_
    refine ev_W.sldN (flw_5 (by decide) rfl) (nI_add _ 2) (by omega) (by omega) rfl ?_
    refine ev_W.fn (flw_5 (by decide) rfl) rfl ?_
    refine ev_W.fn (flw_5 (by decide) rfl) rfl ?_
    refine ev_W.fn (flw_5 (by decide) rfl) rfl ?_
    refine ev_W.fn (flw_5 (by decide) rfl) rfl ?_
    refine ev_W.fn (flw_5 (by decide) rfl) rfl ?_
    refine ev_W.fn (flw_5 (by decide) rfl) rfl ?_
    refine ev_W.fn (flw_5 (by decide) rfl) rfl ?_
    refine ev_W.sldN (flw_5 (by decide) rfl) (nI_add _ 3) (by omega) (by omega) rfl ?_
    refine ev_W.fn (flw_5 (by decide) rfl) rfl ?_
    refine ev_W.fn (flw_5 (by decide) rfl) rfl ?_
    refine ev_W.fn (flw_5 (by decide) rfl) rfl ?_
    refine ev_W.fn (flw_5 (by decide) rfl) rfl ?_
    refine ev_W.clR (flw_5 (by decide) rfl) rfl rfl rfl rfl oz ?_
    refine z_uns0 Jm hx ?_
    have Jn := Jm.same
    refine ev_W.fn (flw_5 (by decide) rfl) rfl ?_
    exact k _ _ Jn
theorem law_7 (hN : N < 2 ^ 30) (hj : 7 * j + 7 ≤ Ls) (hL : Ls ≤ 3584) (J : jn z sz N s h) (k : ∀ s' h', jn z sz (N + 1) s' h' → ev_W (mk_law b Ls xs z) (1075, lwL b sz j, [], h') Q) : ev_W (mk_law b Ls xs z) (511, lwL b sz j, [], h) Q := by
  obtain ⟨fc, oc⟩ := J.o
  rcases cli (xs (7 * j + 1)) with ⟨c, hc, e1⟩ | hx
  · by_cases hb : xs (7 * j + 6) = 0
    · refine ev_W.fn (flw_5 (by decide) rfl) rfl ?_
      refine ev_W.fn (flw_5 (by decide) rfl) rfl ?_
      refine ev_W.fn (flw_5 (by decide) rfl) rfl ?_
      refine ev_W.fn (flw_5 (by decide) rfl) rfl ?_
      refine ev_W.fn (flw_5 (by decide) rfl) rfl ?_
      refine ev_W.sldN (flw_5 (by decide) rfl) (nI_1 _) (by omega) (by omega) e1 ?_
      refine ev_W.fn (flw_5 (by decide) rfl) rfl ?_
      refine ev_W.fn (flw_5 (by decide) rfl) rfl ?_
      refine ev_W.fn (flw_5 (by decide) rfl) rfl ?_
      refine ev_W.fn (flw_5 (by decide) rfl) rfl ?_
      refine ev_W.sldN (flw_5 (by decide) rfl) (nI_add _ 2) (by omega) (by omega) rfl ?_
      refine ev_W.fn (flw_5 (by decide) rfl) rfl ?_
      refine ev_W.fn (flw_5 (by decide) rfl) rfl ?_
      refine ev_W.fn (flw_5 (by decide) rfl) rfl ?_
      refine ev_W.fn (flw_5 (by decide) rfl) rfl ?_
      refine ev_W.fn (flw_5 (by decide) rfl) rfl ?_
      refine ev_W.fn (flw_5 (by decide) rfl) rfl ?_
      refine ev_W.fn (flw_5 (by decide) rfl) rfl ?_
      refine ev_W.sldN (flw_5 (by decide) rfl) (nI_add _ 3) (by omega) (by omega) rfl ?_
      refine ev_W.fn (flw_5 (by decide) rfl) rfl ?_
      refine ev_W.fn (flw_5 (by decide) rfl) rfl ?_
      refine ev_W.fn (flw_5 (by decide) rfl) rfl ?_
      refine ev_W.fn (flw_5 (by decide) rfl) rfl ?_
      refine ev_W.fn (flw_5 (by decide) rfl) rfl ?_
      refine ev_W.fn (flw_5 (by decide) rfl) rfl ?_
      refine ev_W.fn (flw_5 (by decide) rfl) rfl ?_
      refine ev_W.fn (flw_5 (by decide) rfl) rfl ?_
      refine ev_W.sldN (flw_5 (by decide) rfl) (nI_add _ 4) (by omega) (by omega) rfl ?_
      refine ev_W.fn (flw_5 (by decide) rfl) rfl ?_
      refine ev_W.fn (flw_5 (by decide) rfl) rfl ?_
      refine ev_W.fn (flw_5 (by decide) rfl) rfl ?_
      refine ev_W.fn (flw_6 (by decide) rfl) rfl ?_
      refine ev_W.sldN (flw_6 (by decide) rfl) (nI_add _ 5) (by omega) (by omega) rfl ?_
      refine ev_W.fn (flw_6 (by decide) rfl) rfl ?_
      refine ev_W.fn (flw_6 (by decide) rfl) rfl ?_
      refine ev_W.fn (flw_6 (by decide) rfl) rfl ?_
      refine ev_W.fn (flw_6 (by decide) rfl) rfl ?_
      refine ev_W.sldN (flw_6 (by decide) rfl) (nI_add _ 6) (by omega) (by omega) rfl ?_
      refine ev_W.brT (flw_6 (by decide) rfl) rfl hb ?_
      refine ev_W.fn (flw_6 (by decide) rfl) rfl ?_
      refine ev_W.clR (flw_6 (by decide) rfl) rfl rfl rfl rfl oc ?_
      refine c_pub (b := false) J hc (fun h1 Jm => ?_)
      obtain ⟨fz, oz⟩ := Jm.o
      refine ev_W.fn (flw_6 (by decide) rfl) rfl ?_
      refine ev_W.fn (flw_6 (by decide) rfl) rfl ?_
      refine ev_W.fn (flw_6 (by decide) rfl) rfl ?_
      refine ev_W.fn (flw_6 (by decide) rfl) rfl ?_
      refine ev_W.fn (flw_6 (by decide) rfl) rfl ?_
      refine ev_W.sldN (flw_6 (by decide) rfl) (nI_1 _) (by omega) (by omega) e1 ?_
      refine ev_W.fn (flw_6 (by decide) rfl) rfl ?_
      refine ev_W.fn (flw_6 (by decide) rfl) rfl ?_
      refine ev_W.fn (flw_6 (by decide) rfl) rfl ?_
      refine ev_W.fn (flw_6 (by decide) rfl) rfl ?_
      refine ev_W.sldN (flw_6 (by decide) rfl) (nI_add _ 2) (by omega) (by omega) rfl ?_
      refine ev_W.fn (flw_6 (by decide) rfl) rfl ?_
      refine ev_W.fn (flw_6 (by decide) rfl) rfl ?_
      refine ev_W.fn (flw_6 (by decide) rfl) rfl ?_
      refine ev_W.fn (flw_6 (by decide) rfl) rfl ?_
      refine ev_W.fn (flw_6 (by decide) rfl) rfl ?_
      refine ev_W.fn (flw_6 (by decide) rfl) rfl ?_
      refine ev_W.fn (flw_6 (by decide) rfl) rfl ?_
      refine ev_W.sldN (flw_6 (by decide) rfl) (nI_add _ 3) (by omega) (by omega) rfl ?_
      refine ev_W.fn (flw_6 (by decide) rfl) rfl ?_
      refine ev_W.fn (flw_6 (by decide) rfl) rfl ?_
      refine ev_W.fn (flw_6 (by decide) rfl) rfl ?_
      refine ev_W.fn (flw_6 (by decide) rfl) rfl ?_
      refine ev_W.fn (flw_6 (by decide) rfl) rfl ?_
      refine ev_W.fn (flw_6 (by decide) rfl) rfl ?_
      refine ev_W.fn (flw_6 (by decide) rfl) rfl ?_
      refine ev_W.fn (flw_6 (by decide) rfl) rfl ?_
      refine ev_W.sldN (flw_6 (by decide) rfl) (nI_add _ 4) (by omega) (by omega) rfl ?_
      refine ev_W.fn (flw_6 (by decide) rfl) rfl ?_
      refine ev_W.fn (flw_6 (by decide) rfl) rfl ?_
      refine ev_W.fn (flw_6 (by decide) rfl) rfl ?_
      refine ev_W.fn (flw_6 (by decide) rfl) rfl ?_
      refine ev_W.sldN (flw_6 (by decide) rfl) (nI_add _ 5) (by omega) (by omega) rfl ?_
      refine ev_W.fn (flw_6 (by decide) rfl) rfl ?_
      refine ev_W.fn (flw_6 (by decide) rfl) rfl ?_
      refine ev_W.fn (flw_6 (by decide) rfl) rfl ?_
      refine ev_W.fn (flw_6 (by decide) rfl) rfl ?_
      refine ev_W.sldN (flw_6 (by decide) rfl) (nI_add _ 6) (by omega) (by omega) rfl ?_
      refine ev_W.brT (flw_6 (by decide) rfl) rfl hb ?_
      refine ev_W.fn (flw_6 (by decide) rfl) rfl ?_
      refine ev_W.clR (flw_6 (by decide) rfl) rfl rfl rfl rfl oz ?_
      refine z_pub (b := false) Jm hc (fun h2 Jn => ?_)
      refine ev_W.brT (flw_6 (by decide) rfl) rfl rfl ?_
      exact k _ _ Jn
    · refine ev_W.fn (flw_5 (by decide) rfl) rfl ?_
      refine ev_W.fn (flw_5 (by decide) rfl) rfl ?_
      refine ev_W.fn (flw_5 (by decide) rfl) rfl ?_
      refine ev_W.fn (flw_5 (by decide) rfl) rfl ?_
      refine ev_W.fn (flw_5 (by decide) rfl) rfl ?_
      refine ev_W.sldN (flw_5 (by decide) rfl) (nI_1 _) (by omega) (by omega) e1 ?_
      refine ev_W.fn (flw_5 (by decide) rfl) rfl ?_
      refine ev_W.fn (flw_5 (by decide) rfl) rfl ?_
      refine ev_W.fn (flw_5 (by decide) rfl) rfl ?_
      refine ev_W.fn (flw_5 (by decide) rfl) rfl ?_
      refine ev_W.sldN (flw_5 (by decide) rfl) (nI_add _ 2) (by omega) (by omega) rfl ?_
      refine ev_W.fn (flw_5 (by decide) rfl) rfl ?_
      refine ev_W.fn (flw_5 (by decide) rfl) rfl ?_
      refine ev_W.fn (flw_5 (by decide) rfl) rfl ?_
      refine ev_W.fn (flw_5 (by decide) rfl) rfl ?_
      refine ev_W.fn (flw_5 (by decide) rfl) rfl ?_
      refine ev_W.fn (flw_5 (by decide) rfl) rfl ?_
      refine ev_W.fn (flw_5 (by decide) rfl) rfl ?_
      refine ev_W.sldN (flw_5 (by decide) rfl) (nI_add _ 3) (by omega) (by omega) rfl ?_
      refine ev_W.fn (flw_5 (by decide) rfl) rfl ?_
      refine ev_W.fn (flw_5 (by decide) rfl) rfl ?_
      refine ev_W.fn (flw_5 (by decide) rfl) rfl ?_
      refine ev_W.fn (flw_5 (by decide) rfl) rfl ?_
      refine ev_W.fn (flw_5 (by decide) rfl) rfl ?_
      refine ev_W.fn (flw_5 (by decide) rfl) rfl ?_
      refine ev_W.fn (flw_5 (by decide) rfl) rfl ?_
      refine ev_W.fn (flw_5 (by decide) rfl) rfl ?_
      refine ev_W.sldN (flw_5 (by decide) rfl) (nI_add _ 4) (by omega) (by omega) rfl ?_
      refine ev_W.fn (flw_5 (by decide) rfl) rfl ?_
      refine ev_W.fn (flw_5 (by decide) rfl) rfl ?_
      refine ev_W.fn (flw_5 (by decide) rfl) rfl ?_
      refine ev_W.fn (flw_6 (by decide) rfl) rfl ?_
      refine ev_W.sldN (flw_6 (by decide) rfl) (nI_add _ 5) (by omega) (by omega) rfl ?_
      refine ev_W.fn (flw_6 (by decide) rfl) rfl ?_
      refine ev_W.fn (flw_6 (by decide) rfl) rfl ?_
      refine ev_W.fn (flw_6 (by decide) rfl) rfl ?_
      refine ev_W.fn (flw_6 (by decide) rfl) rfl ?_
      refine ev_W.sldN (flw_6 (by decide) rfl) (nI_add _ 6) (by omega) (by omega) rfl ?_
      refine ev_W.brF (flw_6 (by decide) rfl) rfl hb ?_
      refine ev_W.fn (flw_6 (by decide) rfl) rfl ?_
      refine ev_W.fn (flw_6 (by decide) rfl) rfl ?_
      refine ev_W.clR (flw_6 (by decide) rfl) rfl rfl rfl rfl oc ?_
      refine c_pub (b := true) J hc (fun h1 Jm => ?_)
      obtain ⟨fz, oz⟩ := Jm.o
      refine ev_W.fn (flw_6 (by decide) rfl) rfl ?_
      refine ev_W.fn (flw_6 (by decide) rfl) rfl ?_
      refine ev_W.fn (flw_6 (by decide) rfl) rfl ?_
      refine ev_W.fn (flw_6 (by decide) rfl) rfl ?_
      refine ev_W.fn (flw_6 (by decide) rfl) rfl ?_
      refine ev_W.sldN (flw_6 (by decide) rfl) (nI_1 _) (by omega) (by omega) e1 ?_
      refine ev_W.fn (flw_6 (by decide) rfl) rfl ?_
      refine ev_W.fn (flw_6 (by decide) rfl) rfl ?_
      refine ev_W.fn (flw_6 (by decide) rfl) rfl ?_
      refine ev_W.fn (flw_6 (by decide) rfl) rfl ?_
      refine ev_W.sldN (flw_6 (by decide) rfl) (nI_add _ 2) (by omega) (by omega) rfl ?_
      refine ev_W.fn (flw_6 (by decide) rfl) rfl ?_
      refine ev_W.fn (flw_6 (by decide) rfl) rfl ?_
      refine ev_W.fn (flw_6 (by decide) rfl) rfl ?_
      refine ev_W.fn (flw_6 (by decide) rfl) rfl ?_
      refine ev_W.fn (flw_6 (by decide) rfl) rfl ?_
      refine ev_W.fn (flw_6 (by decide) rfl) rfl ?_
      refine ev_W.fn (flw_6 (by decide) rfl) rfl ?_
      refine ev_W.sldN (flw_6 (by decide) rfl) (nI_add _ 3) (by omega) (by omega) rfl ?_
      refine ev_W.fn (flw_6 (by decide) rfl) rfl ?_
      refine ev_W.fn (flw_6 (by decide) rfl) rfl ?_
      refine ev_W.fn (flw_6 (by decide) rfl) rfl ?_
      refine ev_W.fn (flw_6 (by decide) rfl) rfl ?_
      refine ev_W.fn (flw_6 (by decide) rfl) rfl ?_
      refine ev_W.fn (flw_6 (by decide) rfl) rfl ?_
      refine ev_W.fn (flw_6 (by decide) rfl) rfl ?_
      refine ev_W.fn (flw_6 (by decide) rfl) rfl ?_
      refine ev_W.sldN (flw_6 (by decide) rfl) (nI_add _ 4) (by omega) (by omega) rfl ?_
      refine ev_W.fn (flw_6 (by decide) rfl) rfl ?_
      refine ev_W.fn (flw_6 (by decide) rfl) rfl ?_
      refine ev_W.fn (flw_6 (by decide) rfl) rfl ?_
      refine ev_W.fn (flw_6 (by decide) rfl) rfl ?_
      refine ev_W.sldN (flw_6 (by decide) rfl) (nI_add _ 5) (by omega) (by omega) rfl ?_
      refine ev_W.fn (flw_6 (by decide) rfl) rfl ?_
      refine ev_W.fn (flw_6 (by decide) rfl) rfl ?_
      refine ev_W.fn (flw_6 (by decide) rfl) rfl ?_
      refine ev_W.fn (flw_6 (by decide) rfl) rfl ?_
      refine ev_W.sldN (flw_6 (by decide) rfl) (nI_add _ 6) (by omega) (by omega) rfl ?_
      refine ev_W.brF (flw_6 (by decide) rfl) rfl hb ?_
      refine ev_W.fn (flw_6 (by decide) rfl) rfl ?_
      refine ev_W.fn (flw_6 (by decide) rfl) rfl ?_
      refine ev_W.clR (flw_6 (by decide) rfl) rfl rfl rfl rfl oz ?_
      refine z_pub (b := true) Jm hc (fun h2 Jn => ?_)
      refine ev_W.brT (flw_6 (by decide) rfl) rfl rfl ?_
      exact k _ _ Jn
  · by_cases hb : xs (7 * j + 6) = 0
    · refine ev_W.fn (flw_5 (by decide) rfl) rfl ?_
      refine ev_W.fn (flw_5 (by decide) rfl) rfl ?_
      refine ev_W.fn (flw_5 (by decide) rfl) rfl ?_
      refine ev_W.fn (flw_5 (by decide) rfl) rfl ?_
      refine ev_W.fn (flw_5 (by decide) rfl) rfl ?_
      refine ev_W.sldN (flw_5 (by decide) rfl) (nI_1 _) (by omega) (by omega) rfl ?_
      refine ev_W.fn (flw_5 (by decide) rfl) rfl ?_
      refine ev_W.fn (flw_5 (by decide) rfl) rfl ?_
      refine ev_W.fn (flw_5 (by decide) rfl) rfl ?_
      refine ev_W.fn (flw_5 (by decide) rfl) rfl ?_
      refine ev_W.sldN (flw_5 (by decide) rfl) (nI_add _ 2) (by omega) (by omega) rfl ?_
      refine ev_W.fn (flw_5 (by decide) rfl) rfl ?_
      refine ev_W.fn (flw_5 (by decide) rfl) rfl ?_
      refine ev_W.fn (flw_5 (by decide) rfl) rfl ?_
      refine ev_W.fn (flw_5 (by decide) rfl) rfl ?_
      refine ev_W.fn (flw_5 (by decide) rfl) rfl ?_
      refine ev_W.fn (flw_5 (by decide) rfl) rfl ?_
      refine ev_W.fn (flw_5 (by decide) rfl) rfl ?_
      refine ev_W.sldN (flw_5 (by decide) rfl) (nI_add _ 3) (by omega) (by omega) rfl ?_
      refine ev_W.fn (flw_5 (by decide) rfl) rfl ?_
      refine ev_W.fn (flw_5 (by decide) rfl) rfl ?_
      refine ev_W.fn (flw_5 (by decide) rfl) rfl ?_
      refine ev_W.fn (flw_5 (by decide) rfl) rfl ?_
      refine ev_W.fn (flw_5 (by decide) rfl) rfl ?_
      refine ev_W.fn (flw_5 (by decide) rfl) rfl ?_
      refine ev_W.fn (flw_5 (by decide) rfl) rfl ?_
      refine ev_W.fn (flw_5 (by decide) rfl) rfl ?_
      refine ev_W.sldN (flw_5 (by decide) rfl) (nI_add _ 4) (by omega) (by omega) rfl ?_
      refine ev_W.fn (flw_5 (by decide) rfl) rfl ?_
      refine ev_W.fn (flw_5 (by decide) rfl) rfl ?_
      refine ev_W.fn (flw_5 (by decide) rfl) rfl ?_
      refine ev_W.fn (flw_6 (by decide) rfl) rfl ?_
      refine ev_W.sldN (flw_6 (by decide) rfl) (nI_add _ 5) (by omega) (by omega) rfl ?_
      refine ev_W.fn (flw_6 (by decide) rfl) rfl ?_
      refine ev_W.fn (flw_6 (by decide) rfl) rfl ?_
      refine ev_W.fn (flw_6 (by decide) rfl) rfl ?_
      refine ev_W.fn (flw_6 (by decide) rfl) rfl ?_
      refine ev_W.sldN (flw_6 (by decide) rfl) (nI_add _ 6) (by omega) (by omega) rfl ?_
      refine ev_W.brT (flw_6 (by decide) rfl) rfl hb ?_
      refine ev_W.fn (flw_6 (by decide) rfl) rfl ?_
      refine ev_W.clR (flw_6 (by decide) rfl) rfl rfl rfl rfl oc ?_
      refine c_pub0 (b := false) J hx ?_
      have Jm := J.same
      obtain ⟨fz, oz⟩ := Jm.o
      refine ev_W.fn (flw_6 (by decide) rfl) rfl ?_
      refine ev_W.fn (flw_6 (by decide) rfl) rfl ?_
      refine ev_W.fn (flw_6 (by decide) rfl) rfl ?_
      refine ev_W.fn (flw_6 (by decide) rfl) rfl ?_
      refine ev_W.fn (flw_6 (by decide) rfl) rfl ?_
      refine ev_W.sldN (flw_6 (by decide) rfl) (nI_1 _) (by omega) (by omega) rfl ?_
      refine ev_W.fn (flw_6 (by decide) rfl) rfl ?_
      refine ev_W.fn (flw_6 (by decide) rfl) rfl ?_
      refine ev_W.fn (flw_6 (by decide) rfl) rfl ?_
      refine ev_W.fn (flw_6 (by decide) rfl) rfl ?_
      refine ev_W.sldN (flw_6 (by decide) rfl) (nI_add _ 2) (by omega) (by omega) rfl ?_
      refine ev_W.fn (flw_6 (by decide) rfl) rfl ?_
      refine ev_W.fn (flw_6 (by decide) rfl) rfl ?_
      refine ev_W.fn (flw_6 (by decide) rfl) rfl ?_
      refine ev_W.fn (flw_6 (by decide) rfl) rfl ?_
      refine ev_W.fn (flw_6 (by decide) rfl) rfl ?_
      refine ev_W.fn (flw_6 (by decide) rfl) rfl ?_
      refine ev_W.fn (flw_6 (by decide) rfl) rfl ?_
      refine ev_W.sldN (flw_6 (by decide) rfl) (nI_add _ 3) (by omega) (by omega) rfl ?_
      refine ev_W.fn (flw_6 (by decide) rfl) rfl ?_
      refine ev_W.fn (flw_6 (by decide) rfl) rfl ?_
      refine ev_W.fn (flw_6 (by decide) rfl) rfl ?_
      refine ev_W.fn (flw_6 (by decide) rfl) rfl ?_
      refine ev_W.fn (flw_6 (by decide) rfl) rfl ?_
      refine ev_W.fn (flw_6 (by decide) rfl) rfl ?_
      refine ev_W.fn (flw_6 (by decide) rfl) rfl ?_
      refine ev_W.fn (flw_6 (by decide) rfl) rfl ?_
      refine ev_W.sldN (flw_6 (by decide) rfl) (nI_add _ 4) (by omega) (by omega) rfl ?_
      refine ev_W.fn (flw_6 (by decide) rfl) rfl ?_
      refine ev_W.fn (flw_6 (by decide) rfl) rfl ?_
      refine ev_W.fn (flw_6 (by decide) rfl) rfl ?_
      refine ev_W.fn (flw_6 (by decide) rfl) rfl ?_
      refine ev_W.sldN (flw_6 (by decide) rfl) (nI_add _ 5) (by omega) (by omega) rfl ?_
      refine ev_W.fn (flw_6 (by decide) rfl) rfl ?_
      refine ev_W.fn (flw_6 (by decide) rfl) rfl ?_
      refine ev_W.fn (flw_6 (by decide) rfl) rfl ?_
      refine ev_W.fn (flw_6 (by decide) rfl) rfl ?_
      refine ev_W.sldN (flw_6 (by decide) rfl) (nI_add _ 6) (by omega) (by omega) rfl ?_
      refine ev_W.brT (flw_6 (by decide) rfl) rfl hb ?_
      refine ev_W.fn (flw_6 (by decide) rfl) rfl ?_
      refine ev_W.clR (flw_6 (by decide) rfl) rfl rfl rfl rfl oz ?_
      refine z_pub0 (b := false) Jm hx ?_
      have Jn := Jm.same
      refine ev_W.fn (flw_6 (by decide) rfl) rfl ?_
      exact k _ _ Jn
    · refine ev_W.fn (flw_5 (by decide) rfl) rfl ?_
      refine ev_W.fn (flw_5 (by decide) rfl) rfl ?_
      refine ev_W.fn (flw_5 (by decide) rfl) rfl ?_
      refine ev_W.fn (flw_5 (by decide) rfl) rfl ?_
      refine ev_W.fn (flw_5 (by decide) rfl) rfl ?_
      refine ev_W.sldN (flw_5 (by decide) rfl) (nI_1 _) (by omega) (by omega) rfl ?_
      refine ev_W.fn (flw_5 (by decide) rfl) rfl ?_
      refine ev_W.fn (flw_5 (by decide) rfl) rfl ?_
      refine ev_W.fn (flw_5 (by decide) rfl) rfl ?_
      refine ev_W.fn (flw_5 (by decide) rfl) rfl ?_
      refine ev_W.sldN (flw_5 (by decide) rfl) (nI_add _ 2) (by omega) (by omega) rfl ?_
      refine ev_W.fn (flw_5 (by decide) rfl) rfl ?_
      refine ev_W.fn (flw_5 (by decide) rfl) rfl ?_
      refine ev_W.fn (flw_5 (by decide) rfl) rfl ?_
      refine ev_W.fn (flw_5 (by decide) rfl) rfl ?_
      refine ev_W.fn (flw_5 (by decide) rfl) rfl ?_
      refine ev_W.fn (flw_5 (by decide) rfl) rfl ?_
      refine ev_W.fn (flw_5 (by decide) rfl) rfl ?_
      refine ev_W.sldN (flw_5 (by decide) rfl) (nI_add _ 3) (by omega) (by omega) rfl ?_
      refine ev_W.fn (flw_5 (by decide) rfl) rfl ?_
      refine ev_W.fn (flw_5 (by decide) rfl) rfl ?_
      refine ev_W.fn (flw_5 (by decide) rfl) rfl ?_
      refine ev_W.fn (flw_5 (by decide) rfl) rfl ?_
      refine ev_W.fn (flw_5 (by decide) rfl) rfl ?_
      refine ev_W.fn (flw_5 (by decide) rfl) rfl ?_
      refine ev_W.fn (flw_5 (by decide) rfl) rfl ?_
      refine ev_W.fn (flw_5 (by decide) rfl) rfl ?_
      refine ev_W.sldN (flw_5 (by decide) rfl) (nI_add _ 4) (by omega) (by omega) rfl ?_
      refine ev_W.fn (flw_5 (by decide) rfl) rfl ?_
      refine ev_W.fn (flw_5 (by decide) rfl) rfl ?_
      refine ev_W.fn (flw_5 (by decide) rfl) rfl ?_
      refine ev_W.fn (flw_6 (by decide) rfl) rfl ?_
      refine ev_W.sldN (flw_6 (by decide) rfl) (nI_add _ 5) (by omega) (by omega) rfl ?_
      refine ev_W.fn (flw_6 (by decide) rfl) rfl ?_
      refine ev_W.fn (flw_6 (by decide) rfl) rfl ?_
      refine ev_W.fn (flw_6 (by decide) rfl) rfl ?_
      refine ev_W.fn (flw_6 (by decide) rfl) rfl ?_
      refine ev_W.sldN (flw_6 (by decide) rfl) (nI_add _ 6) (by omega) (by omega) rfl ?_
      refine ev_W.brF (flw_6 (by decide) rfl) rfl hb ?_
      refine ev_W.fn (flw_6 (by decide) rfl) rfl ?_
      refine ev_W.fn (flw_6 (by decide) rfl) rfl ?_
      refine ev_W.clR (flw_6 (by decide) rfl) rfl rfl rfl rfl oc ?_
      refine c_pub0 (b := true) J hx ?_
      have Jm := J.same
      obtain ⟨fz, oz⟩ := Jm.o
      refine ev_W.fn (flw_6 (by decide) rfl) rfl ?_
      refine ev_W.fn (flw_6 (by decide) rfl) rfl ?_
      refine ev_W.fn (flw_6 (by decide) rfl) rfl ?_
      refine ev_W.fn (flw_6 (by decide) rfl) rfl ?_
      refine ev_W.fn (flw_6 (by decide) rfl) rfl ?_
      refine ev_W.sldN (flw_6 (by decide) rfl) (nI_1 _) (by omega) (by omega) rfl ?_
      refine ev_W.fn (flw_6 (by decide) rfl) rfl ?_
      refine ev_W.fn (flw_6 (by decide) rfl) rfl ?_
      refine ev_W.fn (flw_6 (by decide) rfl) rfl ?_
      refine ev_W.fn (flw_6 (by decide) rfl) rfl ?_
      refine ev_W.sldN (flw_6 (by decide) rfl) (nI_add _ 2) (by omega) (by omega) rfl ?_
      refine ev_W.fn (flw_6 (by decide) rfl) rfl ?_
      refine ev_W.fn (flw_6 (by decide) rfl) rfl ?_
      refine ev_W.fn (flw_6 (by decide) rfl) rfl ?_
      refine ev_W.fn (flw_6 (by decide) rfl) rfl ?_
      refine ev_W.fn (flw_6 (by decide) rfl) rfl ?_
      refine ev_W.fn (flw_6 (by decide) rfl) rfl ?_
      refine ev_W.fn (flw_6 (by decide) rfl) rfl ?_
      refine ev_W.sldN (flw_6 (by decide) rfl) (nI_add _ 3) (by omega) (by omega) rfl ?_
      refine ev_W.fn (flw_6 (by decide) rfl) rfl ?_
      refine ev_W.fn (flw_6 (by decide) rfl) rfl ?_
      refine ev_W.fn (flw_6 (by decide) rfl) rfl ?_
      refine ev_W.fn (flw_6 (by decide) rfl) rfl ?_
      refine ev_W.fn (flw_6 (by decide) rfl) rfl ?_
      refine ev_W.fn (flw_6 (by decide) rfl) rfl ?_
      refine ev_W.fn (flw_6 (by decide) rfl) rfl ?_
      refine ev_W.fn (flw_6 (by decide) rfl) rfl ?_
      refine ev_W.sldN (flw_6 (by decide) rfl) (nI_add _ 4) (by omega) (by omega) rfl ?_
      refine ev_W.fn (flw_6 (by decide) rfl) rfl ?_
      refine ev_W.fn (flw_6 (by decide) rfl) rfl ?_
      refine ev_W.fn (flw_6 (by decide) rfl) rfl ?_
      refine ev_W.fn (flw_6 (by decide) rfl) rfl ?_
      refine ev_W.sldN (flw_6 (by decide) rfl) (nI_add _ 5) (by omega) (by omega) rfl ?_
      refine ev_W.fn (flw_6 (by decide) rfl) rfl ?_
      refine ev_W.fn (flw_6 (by decide) rfl) rfl ?_
      refine ev_W.fn (flw_6 (by decide) rfl) rfl ?_
      refine ev_W.fn (flw_6 (by decide) rfl) rfl ?_
      refine ev_W.sldN (flw_6 (by decide) rfl) (nI_add _ 6) (by omega) (by omega) rfl ?_
      refine ev_W.brF (flw_6 (by decide) rfl) rfl hb ?_
      refine ev_W.fn (flw_6 (by decide) rfl) rfl ?_
      refine ev_W.fn (flw_6 (by decide) rfl) rfl ?_
      refine ev_W.clR (flw_6 (by decide) rfl) rfl rfl rfl rfl oz ?_
      refine z_pub0 (b := true) Jm hx ?_
      have Jn := Jm.same
      refine ev_W.fn (flw_6 (by decide) rfl) rfl ?_
      exact k _ _ Jn
theorem law_8 (hN : N < 2 ^ 30) (hj : 7 * j + 7 ≤ Ls) (hL : Ls ≤ 3584) (J : jn z sz N s h) (k : ∀ s' h', jn z sz (N + 1) s' h' → ev_W (mk_law b Ls xs z) (1075, lwL b sz j, [], h') Q) : ev_W (mk_law b Ls xs z) (622, lwL b sz j, [], h) Q := by
  obtain ⟨fc, oc⟩ := J.o
  rcases cli (xs (7 * j + 1)) with ⟨c, hc, e1⟩ | hx
  · by_cases hb : xs (7 * j + 2) = 0
    · refine ev_W.fn (flw_6 (by decide) rfl) rfl ?_
      refine ev_W.fn (flw_6 (by decide) rfl) rfl ?_
      refine ev_W.fn (flw_7 (by decide) rfl) rfl ?_
      refine ev_W.fn (flw_7 (by decide) rfl) rfl ?_
      refine ev_W.fn (flw_7 (by decide) rfl) rfl ?_
      refine ev_W.sldN (flw_7 (by decide) rfl) (nI_1 _) (by omega) (by omega) e1 ?_
      refine ev_W.fn (flw_7 (by decide) rfl) rfl ?_
      refine ev_W.fn (flw_7 (by decide) rfl) rfl ?_
      refine ev_W.fn (flw_7 (by decide) rfl) rfl ?_
      refine ev_W.fn (flw_7 (by decide) rfl) rfl ?_
      refine ev_W.sldN (flw_7 (by decide) rfl) (nI_add _ 2) (by omega) (by omega) rfl ?_
      refine ev_W.brT (flw_7 (by decide) rfl) rfl hb ?_
      refine ev_W.fn (flw_7 (by decide) rfl) rfl ?_
      refine ev_W.clR (flw_7 (by decide) rfl) rfl rfl rfl rfl oc ?_
      refine c_dn J hc (fun h1 Jm => ?_)
      obtain ⟨fz, oz⟩ := Jm.o
      refine ev_W.fn (flw_7 (by decide) rfl) rfl ?_
      refine ev_W.fn (flw_7 (by decide) rfl) rfl ?_
      refine ev_W.fn (flw_7 (by decide) rfl) rfl ?_
      refine ev_W.fn (flw_7 (by decide) rfl) rfl ?_
      refine ev_W.fn (flw_7 (by decide) rfl) rfl ?_
      refine ev_W.sldN (flw_7 (by decide) rfl) (nI_1 _) (by omega) (by omega) e1 ?_
      refine ev_W.fn (flw_7 (by decide) rfl) rfl ?_
      refine ev_W.fn (flw_7 (by decide) rfl) rfl ?_
      refine ev_W.fn (flw_7 (by decide) rfl) rfl ?_
      refine ev_W.fn (flw_7 (by decide) rfl) rfl ?_
      refine ev_W.sldN (flw_7 (by decide) rfl) (nI_add _ 2) (by omega) (by omega) rfl ?_
      refine ev_W.brT (flw_7 (by decide) rfl) rfl hb ?_
      refine ev_W.fn (flw_7 (by decide) rfl) rfl ?_
      refine ev_W.clR (flw_7 (by decide) rfl) rfl rfl rfl rfl oz ?_
      refine z_dn hN Jm hc (fun h2 Jn => ?_)
      refine ev_W.brT (flw_7 (by decide) rfl) rfl rfl ?_
      exact k _ _ Jn
    · refine ev_W.fn (flw_6 (by decide) rfl) rfl ?_
      refine ev_W.fn (flw_6 (by decide) rfl) rfl ?_
      refine ev_W.fn (flw_7 (by decide) rfl) rfl ?_
      refine ev_W.fn (flw_7 (by decide) rfl) rfl ?_
      refine ev_W.fn (flw_7 (by decide) rfl) rfl ?_
      refine ev_W.sldN (flw_7 (by decide) rfl) (nI_1 _) (by omega) (by omega) e1 ?_
      refine ev_W.fn (flw_7 (by decide) rfl) rfl ?_
      refine ev_W.fn (flw_7 (by decide) rfl) rfl ?_
      refine ev_W.fn (flw_7 (by decide) rfl) rfl ?_
      refine ev_W.fn (flw_7 (by decide) rfl) rfl ?_
      refine ev_W.sldN (flw_7 (by decide) rfl) (nI_add _ 2) (by omega) (by omega) rfl ?_
      refine ev_W.brF (flw_7 (by decide) rfl) rfl hb ?_
      refine ev_W.fn (flw_7 (by decide) rfl) rfl ?_
      refine ev_W.fn (flw_7 (by decide) rfl) rfl ?_
      refine ev_W.clR (flw_7 (by decide) rfl) rfl rfl rfl rfl oc ?_
      refine c_up J hc (fun h1 Jm => ?_)
      obtain ⟨fz, oz⟩ := Jm.o
      refine ev_W.fn (flw_7 (by decide) rfl) rfl ?_
      refine ev_W.fn (flw_7 (by decide) rfl) rfl ?_
      refine ev_W.fn (flw_7 (by decide) rfl) rfl ?_
      refine ev_W.fn (flw_7 (by decide) rfl) rfl ?_
      refine ev_W.fn (flw_7 (by decide) rfl) rfl ?_
      refine ev_W.sldN (flw_7 (by decide) rfl) (nI_1 _) (by omega) (by omega) e1 ?_
      refine ev_W.fn (flw_7 (by decide) rfl) rfl ?_
      refine ev_W.fn (flw_7 (by decide) rfl) rfl ?_
      refine ev_W.fn (flw_7 (by decide) rfl) rfl ?_
      refine ev_W.fn (flw_7 (by decide) rfl) rfl ?_
      refine ev_W.sldN (flw_7 (by decide) rfl) (nI_add _ 2) (by omega) (by omega) rfl ?_
      refine ev_W.brF (flw_7 (by decide) rfl) rfl hb ?_
      refine ev_W.fn (flw_7 (by decide) rfl) rfl ?_
      refine ev_W.fn (flw_7 (by decide) rfl) rfl ?_
      refine ev_W.clR (flw_7 (by decide) rfl) rfl rfl rfl rfl oz ?_
      refine z_up Jm hc (fun h2 Jn => ?_)
      refine ev_W.brT (flw_7 (by decide) rfl) rfl rfl ?_
      exact k _ _ Jn
  · by_cases hb : xs (7 * j + 2) = 0
    · refine ev_W.fn (flw_6 (by decide) rfl) rfl ?_
      refine ev_W.fn (flw_6 (by decide) rfl) rfl ?_
      refine ev_W.fn (flw_7 (by decide) rfl) rfl ?_
      refine ev_W.fn (flw_7 (by decide) rfl) rfl ?_
      refine ev_W.fn (flw_7 (by decide) rfl) rfl ?_
      refine ev_W.sldN (flw_7 (by decide) rfl) (nI_1 _) (by omega) (by omega) rfl ?_
      refine ev_W.fn (flw_7 (by decide) rfl) rfl ?_
      refine ev_W.fn (flw_7 (by decide) rfl) rfl ?_
      refine ev_W.fn (flw_7 (by decide) rfl) rfl ?_
      refine ev_W.fn (flw_7 (by decide) rfl) rfl ?_
      refine ev_W.sldN (flw_7 (by decide) rfl) (nI_add _ 2) (by omega) (by omega) rfl ?_
      refine ev_W.brT (flw_7 (by decide) rfl) rfl hb ?_
      refine ev_W.fn (flw_7 (by decide) rfl) rfl ?_
      refine ev_W.clR (flw_7 (by decide) rfl) rfl rfl rfl rfl oc ?_
      refine c_dlv0 (b := false) J hx ?_
      have Jm := J.same
      obtain ⟨fz, oz⟩ := Jm.o
      refine ev_W.fn (flw_7 (by decide) rfl) rfl ?_
      refine ev_W.fn (flw_7 (by decide) rfl) rfl ?_
      refine ev_W.fn (flw_7 (by decide) rfl) rfl ?_
      refine ev_W.fn (flw_7 (by decide) rfl) rfl ?_
      refine ev_W.fn (flw_7 (by decide) rfl) rfl ?_
      refine ev_W.sldN (flw_7 (by decide) rfl) (nI_1 _) (by omega) (by omega) rfl ?_
      refine ev_W.fn (flw_7 (by decide) rfl) rfl ?_
      refine ev_W.fn (flw_7 (by decide) rfl) rfl ?_
      refine ev_W.fn (flw_7 (by decide) rfl) rfl ?_
      refine ev_W.fn (flw_7 (by decide) rfl) rfl ?_
      refine ev_W.sldN (flw_7 (by decide) rfl) (nI_add _ 2) (by omega) (by omega) rfl ?_
      refine ev_W.brT (flw_7 (by decide) rfl) rfl hb ?_
      refine ev_W.fn (flw_7 (by decide) rfl) rfl ?_
      refine ev_W.clR (flw_7 (by decide) rfl) rfl rfl rfl rfl oz ?_
      refine z_dlv0 (b := false) Jm hx ?_
      have Jn := Jm.same
      refine ev_W.fn (flw_7 (by decide) rfl) rfl ?_
      exact k _ _ Jn
    · refine ev_W.fn (flw_6 (by decide) rfl) rfl ?_
      refine ev_W.fn (flw_6 (by decide) rfl) rfl ?_
      refine ev_W.fn (flw_7 (by decide) rfl) rfl ?_
      refine ev_W.fn (flw_7 (by decide) rfl) rfl ?_
      refine ev_W.fn (flw_7 (by decide) rfl) rfl ?_
      refine ev_W.sldN (flw_7 (by decide) rfl) (nI_1 _) (by omega) (by omega) rfl ?_
      refine ev_W.fn (flw_7 (by decide) rfl) rfl ?_
      refine ev_W.fn (flw_7 (by decide) rfl) rfl ?_
      refine ev_W.fn (flw_7 (by decide) rfl) rfl ?_
      refine ev_W.fn (flw_7 (by decide) rfl) rfl ?_
      refine ev_W.sldN (flw_7 (by decide) rfl) (nI_add _ 2) (by omega) (by omega) rfl ?_
      refine ev_W.brF (flw_7 (by decide) rfl) rfl hb ?_
      refine ev_W.fn (flw_7 (by decide) rfl) rfl ?_
      refine ev_W.fn (flw_7 (by decide) rfl) rfl ?_
      refine ev_W.clR (flw_7 (by decide) rfl) rfl rfl rfl rfl oc ?_
      refine c_dlv0 (b := true) J hx ?_
      have Jm := J.same
      obtain ⟨fz, oz⟩ := Jm.o
      refine ev_W.fn (flw_7 (by decide) rfl) rfl ?_
      refine ev_W.fn (flw_7 (by decide) rfl) rfl ?_
      refine ev_W.fn (flw_7 (by decide) rfl) rfl ?_
      refine ev_W.fn (flw_7 (by decide) rfl) rfl ?_
      refine ev_W.fn (flw_7 (by decide) rfl) rfl ?_
      refine ev_W.sldN (flw_7 (by decide) rfl) (nI_1 _) (by omega) (by omega) rfl ?_
      refine ev_W.fn (flw_7 (by decide) rfl) rfl ?_
      refine ev_W.fn (flw_7 (by decide) rfl) rfl ?_
      refine ev_W.fn (flw_7 (by decide) rfl) rfl ?_
      refine ev_W.fn (flw_7 (by decide) rfl) rfl ?_
      refine ev_W.sldN (flw_7 (by decide) rfl) (nI_add _ 2) (by omega) (by omega) rfl ?_
      refine ev_W.brF (flw_7 (by decide) rfl) rfl hb ?_
      refine ev_W.fn (flw_7 (by decide) rfl) rfl ?_
      refine ev_W.fn (flw_7 (by decide) rfl) rfl ?_
      refine ev_W.clR (flw_7 (by decide) rfl) rfl rfl rfl rfl oz ?_
      refine z_dlv0 (b := true) Jm hx ?_
      have Jn := Jm.same
      refine ev_W.fn (flw_7 (by decide) rfl) rfl ?_
      exact k _ _ Jn
theorem law_9 (hN : N < 2 ^ 30) (hj : 7 * j + 7 ≤ Ls) (hL : Ls ≤ 3584) (J : jn z sz N s h) (k : ∀ s' h', jn z sz (N + 1) s' h' → ev_W (mk_law b Ls xs z) (1075, lwL b sz j, [], h') Q) : ev_W (mk_law b Ls xs z) (671, lwL b sz j, [], h) Q := by
  obtain ⟨fc, oc⟩ := J.o
  refine ev_W.fn (flw_7 (by decide) rfl) rfl ?_
  refine ev_W.clR (flw_7 (by decide) rfl) rfl rfl rfl rfl oc ?_
  refine c_tick J (fun h1 Jm => ?_)
  obtain ⟨fz, oz⟩ := Jm.o
  refine ev_W.fn (flw_7 (by decide) rfl) rfl ?_
  refine ev_W.clR (flw_7 (by decide) rfl) rfl rfl rfl rfl oz ?_
  refine z_tick Jm (fun h2 Jn => ?_)
  refine ev_W.brT (flw_7 (by decide) rfl) rfl rfl ?_
  exact k _ _ Jn
theorem law_10 (hN : N < 2 ^ 30) (hj : 7 * j + 7 ≤ Ls) (hL : Ls ≤ 3584) (J : jn z sz N s h) (k : ∀ s' h', jn z sz (N + 1) s' h' → ev_W (mk_law b Ls xs z) (1075, lwL b sz j, [], h') Q) : ev_W (mk_law b Ls xs z) (684, lwL b sz j, [], h) Q := by
  obtain ⟨fc, oc⟩ := J.o
  refine ev_W.fn (flw_7 (by decide) rfl) rfl ?_
  refine ev_W.clR (flw_7 (by decide) rfl) rfl rfl rfl rfl oc ?_
  refine c_crash J (fun h1 Jm => ?_)
  obtain ⟨fz, oz⟩ := Jm.o
  refine ev_W.fn (flw_7 (by decide) rfl) rfl ?_
  refine ev_W.clR (flw_7 (by decide) rfl) rfl rfl rfl rfl oz ?_
  refine z_crash Jm (fun h2 Jn => ?_)
  refine ev_W.fn (flw_7 (by decide) rfl) rfl ?_
  exact k _ _ Jn
theorem law_11 (hN : N < 2 ^ 30) (hj : 7 * j + 7 ≤ Ls) (hL : Ls ≤ 3584) (J : jn z sz N s h) (k : ∀ s' h', jn z sz (N + 1) s' h' → ev_W (mk_law b Ls xs z) (1075, lwL b sz j, [], h') Q) : ev_W (mk_law b Ls xs z) (695, lwL b sz j, [], h) Q := by
  obtain ⟨fc, oc⟩ := J.o
  refine ev_W.fn (flw_7 (by decide) rfl) rfl ?_
  refine ev_W.fn (flw_7 (by decide) rfl) rfl ?_
  refine ev_W.fn (flw_7 (by decide) rfl) rfl ?_
  refine ev_W.fn (flw_7 (by decide) rfl) rfl ?_
  refine ev_W.fn (flw_7 (by decide) rfl) rfl ?_
  refine ev_W.sldN (flw_7 (by decide) rfl) (nI_1 _) (by omega) (by omega) rfl ?_
  refine ev_W.clR (flw_7 (by decide) rfl) rfl rfl rfl rfl oc ?_
  refine c_fail J (fun h1 Jm => ?_)
  obtain ⟨fz, oz⟩ := Jm.o
  refine ev_W.fn (flw_7 (by decide) rfl) rfl ?_
  refine ev_W.fn (flw_7 (by decide) rfl) rfl ?_
  refine ev_W.fn (flw_7 (by decide) rfl) rfl ?_
  refine ev_W.fn (flw_7 (by decide) rfl) rfl ?_
  refine ev_W.fn (flw_7 (by decide) rfl) rfl ?_
  refine ev_W.sldN (flw_7 (by decide) rfl) (nI_1 _) (by omega) (by omega) rfl ?_
  refine ev_W.clR (flw_7 (by decide) rfl) rfl rfl rfl rfl oz ?_
  refine z_fail Jm (fun h2 Jn => ?_)
  refine ev_W.brT (flw_7 (by decide) rfl) rfl rfl ?_
  exact k _ _ Jn
theorem law_12 (hN : N < 2 ^ 30) (hj : 7 * j + 7 ≤ Ls) (hL : Ls ≤ 3584) (J : jn z sz N s h) (k : ∀ s' h', jn z sz (N + 1) s' h' → ev_W (mk_law b Ls xs z) (1075, lwL b sz j, [], h') Q) : ev_W (mk_law b Ls xs z) (718, lwL b sz j, [], h) Q := by
  obtain ⟨fc, oc⟩ := J.o
  rcases cli (xs (7 * j + 1)) with ⟨c, hc, e1⟩ | hx
  · refine ev_W.fn (flw_8 (by decide) rfl) rfl ?_
    refine ev_W.fn (flw_8 (by decide) rfl) rfl ?_
    refine ev_W.fn (flw_8 (by decide) rfl) rfl ?_
    refine ev_W.fn (flw_8 (by decide) rfl) rfl ?_
    refine ev_W.fn (flw_8 (by decide) rfl) rfl ?_
    refine ev_W.sldN (flw_8 (by decide) rfl) (nI_1 _) (by omega) (by omega) e1 ?_
    refine ev_W.clR (flw_8 (by decide) rfl) rfl rfl rfl rfl oc ?_
    refine c_state J hc ?_
    have Jm := J.same
    obtain ⟨fz, oz⟩ := Jm.o
    refine ev_W.fn (flw_8 (by decide) rfl) rfl ?_
    refine ev_W.fn (flw_8 (by decide) rfl) rfl ?_
    refine ev_W.fn (flw_8 (by decide) rfl) rfl ?_
    refine ev_W.fn (flw_8 (by decide) rfl) rfl ?_
    refine ev_W.fn (flw_8 (by decide) rfl) rfl ?_
    refine ev_W.sldN (flw_8 (by decide) rfl) (nI_1 _) (by omega) (by omega) e1 ?_
    refine ev_W.clR (flw_8 (by decide) rfl) rfl rfl rfl rfl oz ?_
    refine z_state Jm hc ?_
    have Jn := Jm.same
    refine ev_W.brT (flw_8 (by decide) rfl) rfl rfl ?_
    exact k _ _ Jn
  · refine ev_W.fn (flw_8 (by decide) rfl) rfl ?_
    refine ev_W.fn (flw_8 (by decide) rfl) rfl ?_
    refine ev_W.fn (flw_8 (by decide) rfl) rfl ?_
    refine ev_W.fn (flw_8 (by decide) rfl) rfl ?_
    refine ev_W.fn (flw_8 (by decide) rfl) rfl ?_
    refine ev_W.sldN (flw_8 (by decide) rfl) (nI_1 _) (by omega) (by omega) rfl ?_
    refine ev_W.clR (flw_8 (by decide) rfl) rfl rfl rfl rfl oc ?_
    refine c_state0 J hx ?_
    have Jm := J.same
    obtain ⟨fz, oz⟩ := Jm.o
    refine ev_W.fn (flw_8 (by decide) rfl) rfl ?_
    refine ev_W.fn (flw_8 (by decide) rfl) rfl ?_
    refine ev_W.fn (flw_8 (by decide) rfl) rfl ?_
    refine ev_W.fn (flw_8 (by decide) rfl) rfl ?_
    refine ev_W.fn (flw_8 (by decide) rfl) rfl ?_
    refine ev_W.sldN (flw_8 (by decide) rfl) (nI_1 _) (by omega) (by omega) rfl ?_
    refine ev_W.clR (flw_8 (by decide) rfl) rfl rfl rfl rfl oz ?_
    refine z_state0 Jm hx ?_
    have Jn := Jm.same
    refine ev_W.fn (flw_8 (by decide) rfl) rfl ?_
    exact k _ _ Jn
theorem law_13 (hN : N < 2 ^ 30) (hj : 7 * j + 7 ≤ Ls) (hL : Ls ≤ 3584) (J : jn z sz N s h) (k : ∀ s' h', jn z sz (N + 1) s' h' → ev_W (mk_law b Ls xs z) (1075, lwL b sz j, [], h') Q) : ev_W (mk_law b Ls xs z) (741, lwL b sz j, [], h) Q := by
  obtain ⟨fc, oc⟩ := J.o
  rcases cli (xs (7 * j + 1)) with ⟨c, hc, e1⟩ | hx
  · refine ev_W.fn (flw_8 (by decide) rfl) rfl ?_
    refine ev_W.fn (flw_8 (by decide) rfl) rfl ?_
    refine ev_W.fn (flw_8 (by decide) rfl) rfl ?_
    refine ev_W.fn (flw_8 (by decide) rfl) rfl ?_
    refine ev_W.fn (flw_8 (by decide) rfl) rfl ?_
    refine ev_W.sldN (flw_8 (by decide) rfl) (nI_1 _) (by omega) (by omega) e1 ?_
    refine ev_W.clR (flw_8 (by decide) rfl) rfl rfl rfl rfl oc ?_
    refine c_session J hc ?_
    have Jm := J.same
    obtain ⟨fz, oz⟩ := Jm.o
    refine ev_W.fn (flw_8 (by decide) rfl) rfl ?_
    refine ev_W.fn (flw_8 (by decide) rfl) rfl ?_
    refine ev_W.fn (flw_8 (by decide) rfl) rfl ?_
    refine ev_W.fn (flw_8 (by decide) rfl) rfl ?_
    refine ev_W.fn (flw_8 (by decide) rfl) rfl ?_
    refine ev_W.sldN (flw_8 (by decide) rfl) (nI_1 _) (by omega) (by omega) e1 ?_
    refine ev_W.clR (flw_8 (by decide) rfl) rfl rfl rfl rfl oz ?_
    refine z_session Jm hc ?_
    have Jn := Jm.same
    refine ev_W.brT (flw_8 (by decide) rfl) rfl rfl ?_
    exact k _ _ Jn
  · refine ev_W.fn (flw_8 (by decide) rfl) rfl ?_
    refine ev_W.fn (flw_8 (by decide) rfl) rfl ?_
    refine ev_W.fn (flw_8 (by decide) rfl) rfl ?_
    refine ev_W.fn (flw_8 (by decide) rfl) rfl ?_
    refine ev_W.fn (flw_8 (by decide) rfl) rfl ?_
    refine ev_W.sldN (flw_8 (by decide) rfl) (nI_1 _) (by omega) (by omega) rfl ?_
    refine ev_W.clR (flw_8 (by decide) rfl) rfl rfl rfl rfl oc ?_
    refine c_session0 J hx ?_
    have Jm := J.same
    obtain ⟨fz, oz⟩ := Jm.o
    refine ev_W.fn (flw_8 (by decide) rfl) rfl ?_
    refine ev_W.fn (flw_8 (by decide) rfl) rfl ?_
    refine ev_W.fn (flw_8 (by decide) rfl) rfl ?_
    refine ev_W.fn (flw_8 (by decide) rfl) rfl ?_
    refine ev_W.fn (flw_8 (by decide) rfl) rfl ?_
    refine ev_W.sldN (flw_8 (by decide) rfl) (nI_1 _) (by omega) (by omega) rfl ?_
    refine ev_W.clR (flw_8 (by decide) rfl) rfl rfl rfl rfl oz ?_
    refine z_session0 Jm hx ?_
    have Jn := Jm.same
    refine ev_W.fn (flw_8 (by decide) rfl) rfl ?_
    exact k _ _ Jn
theorem law_14 (hN : N < 2 ^ 30) (hj : 7 * j + 7 ≤ Ls) (hL : Ls ≤ 3584) (J : jn z sz N s h) (k : ∀ s' h', jn z sz (N + 1) s' h' → ev_W (mk_law b Ls xs z) (1075, lwL b sz j, [], h') Q) : ev_W (mk_law b Ls xs z) (764, lwL b sz j, [], h) Q := by
  obtain ⟨fc, oc⟩ := J.o
  rcases cli (xs (7 * j + 1)) with ⟨c, hc, e1⟩ | hx
  · by_cases hb : xs (7 * j + 2) = 0
    · refine ev_W.fn (flw_8 (by decide) rfl) rfl ?_
      refine ev_W.fn (flw_8 (by decide) rfl) rfl ?_
      refine ev_W.fn (flw_8 (by decide) rfl) rfl ?_
      refine ev_W.fn (flw_8 (by decide) rfl) rfl ?_
      refine ev_W.fn (flw_8 (by decide) rfl) rfl ?_
      refine ev_W.sldN (flw_8 (by decide) rfl) (nI_1 _) (by omega) (by omega) e1 ?_
      refine ev_W.fn (flw_8 (by decide) rfl) rfl ?_
      refine ev_W.fn (flw_8 (by decide) rfl) rfl ?_
      refine ev_W.fn (flw_8 (by decide) rfl) rfl ?_
      refine ev_W.fn (flw_8 (by decide) rfl) rfl ?_
      refine ev_W.sldN (flw_8 (by decide) rfl) (nI_add _ 2) (by omega) (by omega) rfl ?_
      refine ev_W.brT (flw_8 (by decide) rfl) rfl hb ?_
      refine ev_W.fn (flw_8 (by decide) rfl) rfl ?_
      refine ev_W.clR (flw_8 (by decide) rfl) rfl rfl rfl rfl oc ?_
      refine c_lineF J hc ?_
      have Jm := J.same
      obtain ⟨fz, oz⟩ := Jm.o
      refine ev_W.fn (flw_8 (by decide) rfl) rfl ?_
      refine ev_W.fn (flw_8 (by decide) rfl) rfl ?_
      refine ev_W.fn (flw_8 (by decide) rfl) rfl ?_
      refine ev_W.fn (flw_8 (by decide) rfl) rfl ?_
      refine ev_W.fn (flw_8 (by decide) rfl) rfl ?_
      refine ev_W.sldN (flw_8 (by decide) rfl) (nI_1 _) (by omega) (by omega) e1 ?_
      refine ev_W.fn (flw_8 (by decide) rfl) rfl ?_
      refine ev_W.fn (flw_8 (by decide) rfl) rfl ?_
      refine ev_W.fn (flw_9 (by decide) rfl) rfl ?_
      refine ev_W.fn (flw_9 (by decide) rfl) rfl ?_
      refine ev_W.sldN (flw_9 (by decide) rfl) (nI_add _ 2) (by omega) (by omega) rfl ?_
      refine ev_W.brT (flw_9 (by decide) rfl) rfl hb ?_
      refine ev_W.fn (flw_9 (by decide) rfl) rfl ?_
      refine ev_W.clR (flw_9 (by decide) rfl) rfl rfl rfl rfl oz ?_
      refine z_lineF Jm hc ?_
      have Jn := Jm.same
      refine ev_W.brT (flw_9 (by decide) rfl) rfl rfl ?_
      exact k _ _ Jn
    · refine ev_W.fn (flw_8 (by decide) rfl) rfl ?_
      refine ev_W.fn (flw_8 (by decide) rfl) rfl ?_
      refine ev_W.fn (flw_8 (by decide) rfl) rfl ?_
      refine ev_W.fn (flw_8 (by decide) rfl) rfl ?_
      refine ev_W.fn (flw_8 (by decide) rfl) rfl ?_
      refine ev_W.sldN (flw_8 (by decide) rfl) (nI_1 _) (by omega) (by omega) e1 ?_
      refine ev_W.fn (flw_8 (by decide) rfl) rfl ?_
      refine ev_W.fn (flw_8 (by decide) rfl) rfl ?_
      refine ev_W.fn (flw_8 (by decide) rfl) rfl ?_
      refine ev_W.fn (flw_8 (by decide) rfl) rfl ?_
      refine ev_W.sldN (flw_8 (by decide) rfl) (nI_add _ 2) (by omega) (by omega) rfl ?_
      refine ev_W.brF (flw_8 (by decide) rfl) rfl hb ?_
      refine ev_W.fn (flw_8 (by decide) rfl) rfl ?_
      refine ev_W.fn (flw_8 (by decide) rfl) rfl ?_
      refine ev_W.clR (flw_8 (by decide) rfl) rfl rfl rfl rfl oc ?_
      refine c_lineT J hc ?_
      have Jm := J.same
      obtain ⟨fz, oz⟩ := Jm.o
      refine ev_W.fn (flw_8 (by decide) rfl) rfl ?_
      refine ev_W.fn (flw_8 (by decide) rfl) rfl ?_
      refine ev_W.fn (flw_8 (by decide) rfl) rfl ?_
      refine ev_W.fn (flw_8 (by decide) rfl) rfl ?_
      refine ev_W.fn (flw_8 (by decide) rfl) rfl ?_
      refine ev_W.sldN (flw_8 (by decide) rfl) (nI_1 _) (by omega) (by omega) e1 ?_
      refine ev_W.fn (flw_8 (by decide) rfl) rfl ?_
      refine ev_W.fn (flw_8 (by decide) rfl) rfl ?_
      refine ev_W.fn (flw_9 (by decide) rfl) rfl ?_
      refine ev_W.fn (flw_9 (by decide) rfl) rfl ?_
      refine ev_W.sldN (flw_9 (by decide) rfl) (nI_add _ 2) (by omega) (by omega) rfl ?_
      refine ev_W.brF (flw_9 (by decide) rfl) rfl hb ?_
      refine ev_W.fn (flw_9 (by decide) rfl) rfl ?_
      refine ev_W.fn (flw_9 (by decide) rfl) rfl ?_
      refine ev_W.clR (flw_9 (by decide) rfl) rfl rfl rfl rfl oz ?_
      refine z_lineT Jm hc ?_
      have Jn := Jm.same
      refine ev_W.brT (flw_9 (by decide) rfl) rfl rfl ?_
      exact k _ _ Jn
  · by_cases hb : xs (7 * j + 2) = 0
    · refine ev_W.fn (flw_8 (by decide) rfl) rfl ?_
      refine ev_W.fn (flw_8 (by decide) rfl) rfl ?_
      refine ev_W.fn (flw_8 (by decide) rfl) rfl ?_
      refine ev_W.fn (flw_8 (by decide) rfl) rfl ?_
      refine ev_W.fn (flw_8 (by decide) rfl) rfl ?_
      refine ev_W.sldN (flw_8 (by decide) rfl) (nI_1 _) (by omega) (by omega) rfl ?_
      refine ev_W.fn (flw_8 (by decide) rfl) rfl ?_
      refine ev_W.fn (flw_8 (by decide) rfl) rfl ?_
      refine ev_W.fn (flw_8 (by decide) rfl) rfl ?_
      refine ev_W.fn (flw_8 (by decide) rfl) rfl ?_
      refine ev_W.sldN (flw_8 (by decide) rfl) (nI_add _ 2) (by omega) (by omega) rfl ?_
      refine ev_W.brT (flw_8 (by decide) rfl) rfl hb ?_
      refine ev_W.fn (flw_8 (by decide) rfl) rfl ?_
      refine ev_W.clR (flw_8 (by decide) rfl) rfl rfl rfl rfl oc ?_
      refine c_line0 (b := false) J hx ?_
      have Jm := J.same
      obtain ⟨fz, oz⟩ := Jm.o
      refine ev_W.fn (flw_8 (by decide) rfl) rfl ?_
      refine ev_W.fn (flw_8 (by decide) rfl) rfl ?_
      refine ev_W.fn (flw_8 (by decide) rfl) rfl ?_
      refine ev_W.fn (flw_8 (by decide) rfl) rfl ?_
      refine ev_W.fn (flw_8 (by decide) rfl) rfl ?_
      refine ev_W.sldN (flw_8 (by decide) rfl) (nI_1 _) (by omega) (by omega) rfl ?_
      refine ev_W.fn (flw_8 (by decide) rfl) rfl ?_
      refine ev_W.fn (flw_8 (by decide) rfl) rfl ?_
      refine ev_W.fn (flw_9 (by decide) rfl) rfl ?_
      refine ev_W.fn (flw_9 (by decide) rfl) rfl ?_
      refine ev_W.sldN (flw_9 (by decide) rfl) (nI_add _ 2) (by omega) (by omega) rfl ?_
      refine ev_W.brT (flw_9 (by decide) rfl) rfl hb ?_
      refine ev_W.fn (flw_9 (by decide) rfl) rfl ?_
      refine ev_W.clR (flw_9 (by decide) rfl) rfl rfl rfl rfl oz ?_
      refine z_line0 (b := false) Jm hx ?_
      have Jn := Jm.same
      refine ev_W.fn (flw_9 (by decide) rfl) rfl ?_
      exact k _ _ Jn
    · refine ev_W.fn (flw_8 (by decide) rfl) rfl ?_
      refine ev_W.fn (flw_8 (by decide) rfl) rfl ?_
      refine ev_W.fn (flw_8 (by decide) rfl) rfl ?_
      refine ev_W.fn (flw_8 (by decide) rfl) rfl ?_
      refine ev_W.fn (flw_8 (by decide) rfl) rfl ?_
      refine ev_W.sldN (flw_8 (by decide) rfl) (nI_1 _) (by omega) (by omega) rfl ?_
      refine ev_W.fn (flw_8 (by decide) rfl) rfl ?_
      refine ev_W.fn (flw_8 (by decide) rfl) rfl ?_
      refine ev_W.fn (flw_8 (by decide) rfl) rfl ?_
      refine ev_W.fn (flw_8 (by decide) rfl) rfl ?_
      refine ev_W.sldN (flw_8 (by decide) rfl) (nI_add _ 2) (by omega) (by omega) rfl ?_
      refine ev_W.brF (flw_8 (by decide) rfl) rfl hb ?_
      refine ev_W.fn (flw_8 (by decide) rfl) rfl ?_
      refine ev_W.fn (flw_8 (by decide) rfl) rfl ?_
      refine ev_W.clR (flw_8 (by decide) rfl) rfl rfl rfl rfl oc ?_
      refine c_line0 (b := true) J hx ?_
      have Jm := J.same
      obtain ⟨fz, oz⟩ := Jm.o
      refine ev_W.fn (flw_8 (by decide) rfl) rfl ?_
      refine ev_W.fn (flw_8 (by decide) rfl) rfl ?_
      refine ev_W.fn (flw_8 (by decide) rfl) rfl ?_
      refine ev_W.fn (flw_8 (by decide) rfl) rfl ?_
      refine ev_W.fn (flw_8 (by decide) rfl) rfl ?_
      refine ev_W.sldN (flw_8 (by decide) rfl) (nI_1 _) (by omega) (by omega) rfl ?_
      refine ev_W.fn (flw_8 (by decide) rfl) rfl ?_
      refine ev_W.fn (flw_8 (by decide) rfl) rfl ?_
      refine ev_W.fn (flw_9 (by decide) rfl) rfl ?_
      refine ev_W.fn (flw_9 (by decide) rfl) rfl ?_
      refine ev_W.sldN (flw_9 (by decide) rfl) (nI_add _ 2) (by omega) (by omega) rfl ?_
      refine ev_W.brF (flw_9 (by decide) rfl) rfl hb ?_
      refine ev_W.fn (flw_9 (by decide) rfl) rfl ?_
      refine ev_W.fn (flw_9 (by decide) rfl) rfl ?_
      refine ev_W.clR (flw_9 (by decide) rfl) rfl rfl rfl rfl oz ?_
      refine z_line0 (b := true) Jm hx ?_
      have Jn := Jm.same
      refine ev_W.fn (flw_9 (by decide) rfl) rfl ?_
      exact k _ _ Jn
theorem law_15 (hN : N < 2 ^ 30) (hj : 7 * j + 7 ≤ Ls) (hL : Ls ≤ 3584) (J : jn z sz N s h) (k : ∀ s' h', jn z sz (N + 1) s' h' → ev_W (mk_law b Ls xs z) (1075, lwL b sz j, [], h') Q) : ev_W (mk_law b Ls xs z) (813, lwL b sz j, [], h) Q := by
  obtain ⟨fc, oc⟩ := J.o
  rcases cli (xs (7 * j + 1)) with ⟨c, hc, e1⟩ | hx
  · by_cases hb : xs (7 * j + 2) = 0
    · refine ev_W.fn (flw_9 (by decide) rfl) rfl ?_
      refine ev_W.fn (flw_9 (by decide) rfl) rfl ?_
      refine ev_W.fn (flw_9 (by decide) rfl) rfl ?_
      refine ev_W.fn (flw_9 (by decide) rfl) rfl ?_
      refine ev_W.fn (flw_9 (by decide) rfl) rfl ?_
      refine ev_W.sldN (flw_9 (by decide) rfl) (nI_1 _) (by omega) (by omega) e1 ?_
      refine ev_W.fn (flw_9 (by decide) rfl) rfl ?_
      refine ev_W.fn (flw_9 (by decide) rfl) rfl ?_
      refine ev_W.fn (flw_9 (by decide) rfl) rfl ?_
      refine ev_W.fn (flw_9 (by decide) rfl) rfl ?_
      refine ev_W.sldN (flw_9 (by decide) rfl) (nI_add _ 2) (by omega) (by omega) rfl ?_
      refine ev_W.brT (flw_9 (by decide) rfl) rfl hb ?_
      refine ev_W.fn (flw_9 (by decide) rfl) rfl ?_
      refine ev_W.fn (flw_9 (by decide) rfl) rfl ?_
      refine ev_W.fn (flw_9 (by decide) rfl) rfl ?_
      refine ev_W.fn (flw_9 (by decide) rfl) rfl ?_
      refine ev_W.fn (flw_9 (by decide) rfl) rfl ?_
      refine ev_W.sldN (flw_9 (by decide) rfl) (nI_add _ 3) (by omega) (by omega) rfl ?_
      refine ev_W.clR (flw_9 (by decide) rfl) rfl rfl rfl rfl oc ?_
      refine c_packetF J hc ?_
      have Jm := J.same
      obtain ⟨fz, oz⟩ := Jm.o
      refine ev_W.fn (flw_9 (by decide) rfl) rfl ?_
      refine ev_W.fn (flw_9 (by decide) rfl) rfl ?_
      refine ev_W.fn (flw_9 (by decide) rfl) rfl ?_
      refine ev_W.fn (flw_9 (by decide) rfl) rfl ?_
      refine ev_W.fn (flw_9 (by decide) rfl) rfl ?_
      refine ev_W.sldN (flw_9 (by decide) rfl) (nI_1 _) (by omega) (by omega) e1 ?_
      refine ev_W.fn (flw_9 (by decide) rfl) rfl ?_
      refine ev_W.fn (flw_9 (by decide) rfl) rfl ?_
      refine ev_W.fn (flw_9 (by decide) rfl) rfl ?_
      refine ev_W.fn (flw_9 (by decide) rfl) rfl ?_
      refine ev_W.sldN (flw_9 (by decide) rfl) (nI_add _ 2) (by omega) (by omega) rfl ?_
      refine ev_W.brT (flw_9 (by decide) rfl) rfl hb ?_
      refine ev_W.fn (flw_9 (by decide) rfl) rfl ?_
      refine ev_W.fn (flw_9 (by decide) rfl) rfl ?_
      refine ev_W.fn (flw_9 (by decide) rfl) rfl ?_
      refine ev_W.fn (flw_9 (by decide) rfl) rfl ?_
      refine ev_W.fn (flw_9 (by decide) rfl) rfl ?_
      refine ev_W.sldN (flw_9 (by decide) rfl) (nI_add _ 3) (by omega) (by omega) rfl ?_
      refine ev_W.clR (flw_9 (by decide) rfl) rfl rfl rfl rfl oz ?_
      refine z_packetF Jm hc ?_
      have Jn := Jm.same
      refine ev_W.fn (flw_9 (by decide) rfl) rfl ?_
      refine ev_W.brT (flw_9 (by decide) rfl) rfl ((lg_cmp_eq _ _).mpr rfl) ?_
      exact k _ _ Jn
    · refine ev_W.fn (flw_9 (by decide) rfl) rfl ?_
      refine ev_W.fn (flw_9 (by decide) rfl) rfl ?_
      refine ev_W.fn (flw_9 (by decide) rfl) rfl ?_
      refine ev_W.fn (flw_9 (by decide) rfl) rfl ?_
      refine ev_W.fn (flw_9 (by decide) rfl) rfl ?_
      refine ev_W.sldN (flw_9 (by decide) rfl) (nI_1 _) (by omega) (by omega) e1 ?_
      refine ev_W.fn (flw_9 (by decide) rfl) rfl ?_
      refine ev_W.fn (flw_9 (by decide) rfl) rfl ?_
      refine ev_W.fn (flw_9 (by decide) rfl) rfl ?_
      refine ev_W.fn (flw_9 (by decide) rfl) rfl ?_
      refine ev_W.sldN (flw_9 (by decide) rfl) (nI_add _ 2) (by omega) (by omega) rfl ?_
      refine ev_W.brF (flw_9 (by decide) rfl) rfl hb ?_
      refine ev_W.fn (flw_9 (by decide) rfl) rfl ?_
      refine ev_W.fn (flw_9 (by decide) rfl) rfl ?_
      refine ev_W.fn (flw_9 (by decide) rfl) rfl ?_
      refine ev_W.fn (flw_9 (by decide) rfl) rfl ?_
      refine ev_W.fn (flw_9 (by decide) rfl) rfl ?_
      refine ev_W.fn (flw_9 (by decide) rfl) rfl ?_
      refine ev_W.sldN (flw_9 (by decide) rfl) (nI_add _ 3) (by omega) (by omega) rfl ?_
      refine ev_W.clR (flw_9 (by decide) rfl) rfl rfl rfl rfl oc ?_
      refine c_packetT J hc ?_
      have Jm := J.same
      obtain ⟨fz, oz⟩ := Jm.o
      refine ev_W.fn (flw_9 (by decide) rfl) rfl ?_
      refine ev_W.fn (flw_9 (by decide) rfl) rfl ?_
      refine ev_W.fn (flw_9 (by decide) rfl) rfl ?_
      refine ev_W.fn (flw_9 (by decide) rfl) rfl ?_
      refine ev_W.fn (flw_9 (by decide) rfl) rfl ?_
      refine ev_W.sldN (flw_9 (by decide) rfl) (nI_1 _) (by omega) (by omega) e1 ?_
      refine ev_W.fn (flw_9 (by decide) rfl) rfl ?_
      refine ev_W.fn (flw_9 (by decide) rfl) rfl ?_
      refine ev_W.fn (flw_9 (by decide) rfl) rfl ?_
      refine ev_W.fn (flw_9 (by decide) rfl) rfl ?_
      refine ev_W.sldN (flw_9 (by decide) rfl) (nI_add _ 2) (by omega) (by omega) rfl ?_
      refine ev_W.brF (flw_9 (by decide) rfl) rfl hb ?_
      refine ev_W.fn (flw_9 (by decide) rfl) rfl ?_
      refine ev_W.fn (flw_9 (by decide) rfl) rfl ?_
      refine ev_W.fn (flw_9 (by decide) rfl) rfl ?_
      refine ev_W.fn (flw_9 (by decide) rfl) rfl ?_
      refine ev_W.fn (flw_9 (by decide) rfl) rfl ?_
      refine ev_W.fn (flw_9 (by decide) rfl) rfl ?_
      refine ev_W.sldN (flw_9 (by decide) rfl) (nI_add _ 3) (by omega) (by omega) rfl ?_
      refine ev_W.clR (flw_9 (by decide) rfl) rfl rfl rfl rfl oz ?_
      refine z_packetT Jm hc ?_
      have Jn := Jm.same
      refine ev_W.fn (flw_9 (by decide) rfl) rfl ?_
      refine ev_W.brT (flw_9 (by decide) rfl) rfl ((lg_cmp_eq _ _).mpr rfl) ?_
      exact k _ _ Jn
  · by_cases hb : xs (7 * j + 2) = 0
    · refine ev_W.fn (flw_9 (by decide) rfl) rfl ?_
      refine ev_W.fn (flw_9 (by decide) rfl) rfl ?_
      refine ev_W.fn (flw_9 (by decide) rfl) rfl ?_
      refine ev_W.fn (flw_9 (by decide) rfl) rfl ?_
      refine ev_W.fn (flw_9 (by decide) rfl) rfl ?_
      refine ev_W.sldN (flw_9 (by decide) rfl) (nI_1 _) (by omega) (by omega) rfl ?_
      refine ev_W.fn (flw_9 (by decide) rfl) rfl ?_
      refine ev_W.fn (flw_9 (by decide) rfl) rfl ?_
      refine ev_W.fn (flw_9 (by decide) rfl) rfl ?_
      refine ev_W.fn (flw_9 (by decide) rfl) rfl ?_
      refine ev_W.sldN (flw_9 (by decide) rfl) (nI_add _ 2) (by omega) (by omega) rfl ?_
      refine ev_W.brT (flw_9 (by decide) rfl) rfl hb ?_
      refine ev_W.fn (flw_9 (by decide) rfl) rfl ?_
      refine ev_W.fn (flw_9 (by decide) rfl) rfl ?_
      refine ev_W.fn (flw_9 (by decide) rfl) rfl ?_
      refine ev_W.fn (flw_9 (by decide) rfl) rfl ?_
      refine ev_W.fn (flw_9 (by decide) rfl) rfl ?_
      refine ev_W.sldN (flw_9 (by decide) rfl) (nI_add _ 3) (by omega) (by omega) rfl ?_
      refine ev_W.clR (flw_9 (by decide) rfl) rfl rfl rfl rfl oc ?_
      refine c_packet0 (b := false) J hx ?_
      have Jm := J.same
      obtain ⟨fz, oz⟩ := Jm.o
      refine ev_W.fn (flw_9 (by decide) rfl) rfl ?_
      refine ev_W.fn (flw_9 (by decide) rfl) rfl ?_
      refine ev_W.fn (flw_9 (by decide) rfl) rfl ?_
      refine ev_W.fn (flw_9 (by decide) rfl) rfl ?_
      refine ev_W.fn (flw_9 (by decide) rfl) rfl ?_
      refine ev_W.sldN (flw_9 (by decide) rfl) (nI_1 _) (by omega) (by omega) rfl ?_
      refine ev_W.fn (flw_9 (by decide) rfl) rfl ?_
      refine ev_W.fn (flw_9 (by decide) rfl) rfl ?_
      refine ev_W.fn (flw_9 (by decide) rfl) rfl ?_
      refine ev_W.fn (flw_9 (by decide) rfl) rfl ?_
      refine ev_W.sldN (flw_9 (by decide) rfl) (nI_add _ 2) (by omega) (by omega) rfl ?_
      refine ev_W.brT (flw_9 (by decide) rfl) rfl hb ?_
      refine ev_W.fn (flw_9 (by decide) rfl) rfl ?_
      refine ev_W.fn (flw_9 (by decide) rfl) rfl ?_
      refine ev_W.fn (flw_9 (by decide) rfl) rfl ?_
      refine ev_W.fn (flw_9 (by decide) rfl) rfl ?_
      refine ev_W.fn (flw_9 (by decide) rfl) rfl ?_
      refine ev_W.sldN (flw_9 (by decide) rfl) (nI_add _ 3) (by omega) (by omega) rfl ?_
      refine ev_W.clR (flw_9 (by decide) rfl) rfl rfl rfl rfl oz ?_
      refine z_packet0 (b := false) Jm hx ?_
      have Jn := Jm.same
      refine ev_W.fn (flw_9 (by decide) rfl) rfl ?_
      refine ev_W.fn (flw_9 (by decide) rfl) rfl ?_
      exact k _ _ Jn
    · refine ev_W.fn (flw_9 (by decide) rfl) rfl ?_
      refine ev_W.fn (flw_9 (by decide) rfl) rfl ?_
      refine ev_W.fn (flw_9 (by decide) rfl) rfl ?_
      refine ev_W.fn (flw_9 (by decide) rfl) rfl ?_
      refine ev_W.fn (flw_9 (by decide) rfl) rfl ?_
      refine ev_W.sldN (flw_9 (by decide) rfl) (nI_1 _) (by omega) (by omega) rfl ?_
      refine ev_W.fn (flw_9 (by decide) rfl) rfl ?_
      refine ev_W.fn (flw_9 (by decide) rfl) rfl ?_
      refine ev_W.fn (flw_9 (by decide) rfl) rfl ?_
      refine ev_W.fn (flw_9 (by decide) rfl) rfl ?_
      refine ev_W.sldN (flw_9 (by decide) rfl) (nI_add _ 2) (by omega) (by omega) rfl ?_
      refine ev_W.brF (flw_9 (by decide) rfl) rfl hb ?_
      refine ev_W.fn (flw_9 (by decide) rfl) rfl ?_
      refine ev_W.fn (flw_9 (by decide) rfl) rfl ?_
      refine ev_W.fn (flw_9 (by decide) rfl) rfl ?_
      refine ev_W.fn (flw_9 (by decide) rfl) rfl ?_
      refine ev_W.fn (flw_9 (by decide) rfl) rfl ?_
      refine ev_W.fn (flw_9 (by decide) rfl) rfl ?_
      refine ev_W.sldN (flw_9 (by decide) rfl) (nI_add _ 3) (by omega) (by omega) rfl ?_
      refine ev_W.clR (flw_9 (by decide) rfl) rfl rfl rfl rfl oc ?_
      refine c_packet0 (b := true) J hx ?_
      have Jm := J.same
      obtain ⟨fz, oz⟩ := Jm.o
      refine ev_W.fn (flw_9 (by decide) rfl) rfl ?_
      refine ev_W.fn (flw_9 (by decide) rfl) rfl ?_
      refine ev_W.fn (flw_9 (by decide) rfl) rfl ?_
      refine ev_W.fn (flw_9 (by decide) rfl) rfl ?_
      refine ev_W.fn (flw_9 (by decide) rfl) rfl ?_
      refine ev_W.sldN (flw_9 (by decide) rfl) (nI_1 _) (by omega) (by omega) rfl ?_
      refine ev_W.fn (flw_9 (by decide) rfl) rfl ?_
      refine ev_W.fn (flw_9 (by decide) rfl) rfl ?_
      refine ev_W.fn (flw_9 (by decide) rfl) rfl ?_
      refine ev_W.fn (flw_9 (by decide) rfl) rfl ?_
      refine ev_W.sldN (flw_9 (by decide) rfl) (nI_add _ 2) (by omega) (by omega) rfl ?_
      refine ev_W.brF (flw_9 (by decide) rfl) rfl hb ?_
      refine ev_W.fn (flw_9 (by decide) rfl) rfl ?_
      refine ev_W.fn (flw_9 (by decide) rfl) rfl ?_
      refine ev_W.fn (flw_9 (by decide) rfl) rfl ?_
      refine ev_W.fn (flw_9 (by decide) rfl) rfl ?_
      refine ev_W.fn (flw_9 (by decide) rfl) rfl ?_
      refine ev_W.fn (flw_9 (by decide) rfl) rfl ?_
      refine ev_W.sldN (flw_9 (by decide) rfl) (nI_add _ 3) (by omega) (by omega) rfl ?_
      refine ev_W.clR (flw_9 (by decide) rfl) rfl rfl rfl rfl oz ?_
      refine z_packet0 (b := true) Jm hx ?_
      have Jn := Jm.same
      refine ev_W.fn (flw_9 (by decide) rfl) rfl ?_
      refine ev_W.fn (flw_9 (by decide) rfl) rfl ?_
      exact k _ _ Jn
theorem law_16 (hN : N < 2 ^ 30) (hj : 7 * j + 7 ≤ Ls) (hL : Ls ≤ 3584) (J : jn z sz N s h) (k : ∀ s' h', jn z sz (N + 1) s' h' → ev_W (mk_law b Ls xs z) (1075, lwL b sz j, [], h') Q) : ev_W (mk_law b Ls xs z) (873, lwL b sz j, [], h) Q := by
  obtain ⟨fc, oc⟩ := J.o
  rcases cli (xs (7 * j + 1)) with ⟨c, hc, e1⟩ | hx
  · refine ev_W.fn (flw_9 (by decide) rfl) rfl ?_
    refine ev_W.fn (flw_9 (by decide) rfl) rfl ?_
    refine ev_W.fn (flw_9 (by decide) rfl) rfl ?_
    refine ev_W.fn (flw_10 (by decide) rfl) rfl ?_
    refine ev_W.fn (flw_10 (by decide) rfl) rfl ?_
    refine ev_W.sldN (flw_10 (by decide) rfl) (nI_1 _) (by omega) (by omega) e1 ?_
    refine ev_W.fn (flw_10 (by decide) rfl) rfl ?_
    refine ev_W.fn (flw_10 (by decide) rfl) rfl ?_
    refine ev_W.fn (flw_10 (by decide) rfl) rfl ?_
    refine ev_W.fn (flw_10 (by decide) rfl) rfl ?_
    refine ev_W.sldN (flw_10 (by decide) rfl) (nI_add _ 2) (by omega) (by omega) rfl ?_
    refine ev_W.clR (flw_10 (by decide) rfl) rfl rfl rfl rfl oc ?_
    refine c_inbox J hc ?_
    have Jm := J.same
    obtain ⟨fz, oz⟩ := Jm.o
    refine ev_W.fn (flw_10 (by decide) rfl) rfl ?_
    refine ev_W.fn (flw_10 (by decide) rfl) rfl ?_
    refine ev_W.fn (flw_10 (by decide) rfl) rfl ?_
    refine ev_W.fn (flw_10 (by decide) rfl) rfl ?_
    refine ev_W.fn (flw_10 (by decide) rfl) rfl ?_
    refine ev_W.sldN (flw_10 (by decide) rfl) (nI_1 _) (by omega) (by omega) e1 ?_
    refine ev_W.fn (flw_10 (by decide) rfl) rfl ?_
    refine ev_W.fn (flw_10 (by decide) rfl) rfl ?_
    refine ev_W.fn (flw_10 (by decide) rfl) rfl ?_
    refine ev_W.fn (flw_10 (by decide) rfl) rfl ?_
    refine ev_W.sldN (flw_10 (by decide) rfl) (nI_add _ 2) (by omega) (by omega) rfl ?_
    refine ev_W.clR (flw_10 (by decide) rfl) rfl rfl rfl rfl oz ?_
    refine z_inbox hN Jm hc ?_
    have Jn := Jm.same
    refine ev_W.brT (flw_10 (by decide) rfl) rfl rfl ?_
    exact k _ _ Jn
  · refine ev_W.fn (flw_9 (by decide) rfl) rfl ?_
    refine ev_W.fn (flw_9 (by decide) rfl) rfl ?_
    refine ev_W.fn (flw_9 (by decide) rfl) rfl ?_
    refine ev_W.fn (flw_10 (by decide) rfl) rfl ?_
    refine ev_W.fn (flw_10 (by decide) rfl) rfl ?_
    refine ev_W.sldN (flw_10 (by decide) rfl) (nI_1 _) (by omega) (by omega) rfl ?_
    refine ev_W.fn (flw_10 (by decide) rfl) rfl ?_
    refine ev_W.fn (flw_10 (by decide) rfl) rfl ?_
    refine ev_W.fn (flw_10 (by decide) rfl) rfl ?_
    refine ev_W.fn (flw_10 (by decide) rfl) rfl ?_
    refine ev_W.sldN (flw_10 (by decide) rfl) (nI_add _ 2) (by omega) (by omega) rfl ?_
    refine ev_W.clR (flw_10 (by decide) rfl) rfl rfl rfl rfl oc ?_
    refine c_inbox0 J hx ?_
    have Jm := J.same
    obtain ⟨fz, oz⟩ := Jm.o
    refine ev_W.fn (flw_10 (by decide) rfl) rfl ?_
    refine ev_W.fn (flw_10 (by decide) rfl) rfl ?_
    refine ev_W.fn (flw_10 (by decide) rfl) rfl ?_
    refine ev_W.fn (flw_10 (by decide) rfl) rfl ?_
    refine ev_W.fn (flw_10 (by decide) rfl) rfl ?_
    refine ev_W.sldN (flw_10 (by decide) rfl) (nI_1 _) (by omega) (by omega) rfl ?_
    refine ev_W.fn (flw_10 (by decide) rfl) rfl ?_
    refine ev_W.fn (flw_10 (by decide) rfl) rfl ?_
    refine ev_W.fn (flw_10 (by decide) rfl) rfl ?_
    refine ev_W.fn (flw_10 (by decide) rfl) rfl ?_
    refine ev_W.sldN (flw_10 (by decide) rfl) (nI_add _ 2) (by omega) (by omega) rfl ?_
    refine ev_W.clR (flw_10 (by decide) rfl) rfl rfl rfl rfl oz ?_
    refine z_inbox0 Jm hx ?_
    have Jn := Jm.same
    refine ev_W.fn (flw_10 (by decide) rfl) rfl ?_
    exact k _ _ Jn
theorem law_17 (hN : N < 2 ^ 30) (hj : 7 * j + 7 ≤ Ls) (hL : Ls ≤ 3584) (J : jn z sz N s h) (k : ∀ s' h', jn z sz (N + 1) s' h' → ev_W (mk_law b Ls xs z) (1075, lwL b sz j, [], h') Q) : ev_W (mk_law b Ls xs z) (906, lwL b sz j, [], h) Q := by
  obtain ⟨fc, oc⟩ := J.o
  rcases cli (xs (7 * j + 1)) with ⟨c, hc, e1⟩ | hx
  · refine ev_W.fn (flw_10 (by decide) rfl) rfl ?_
    refine ev_W.fn (flw_10 (by decide) rfl) rfl ?_
    refine ev_W.fn (flw_10 (by decide) rfl) rfl ?_
    refine ev_W.fn (flw_10 (by decide) rfl) rfl ?_
    refine ev_W.fn (flw_10 (by decide) rfl) rfl ?_
    refine ev_W.sldN (flw_10 (by decide) rfl) (nI_1 _) (by omega) (by omega) e1 ?_
    refine ev_W.clR (flw_10 (by decide) rfl) rfl rfl rfl rfl oc ?_
    refine c_store J hc ?_
    have Jm := J.same
    obtain ⟨fz, oz⟩ := Jm.o
    refine ev_W.fn (flw_10 (by decide) rfl) rfl ?_
    refine ev_W.fn (flw_10 (by decide) rfl) rfl ?_
    refine ev_W.fn (flw_10 (by decide) rfl) rfl ?_
    refine ev_W.fn (flw_10 (by decide) rfl) rfl ?_
    refine ev_W.fn (flw_10 (by decide) rfl) rfl ?_
    refine ev_W.sldN (flw_10 (by decide) rfl) (nI_1 _) (by omega) (by omega) e1 ?_
    refine ev_W.clR (flw_10 (by decide) rfl) rfl rfl rfl rfl oz ?_
    refine z_store Jm hc ?_
    have Jn := Jm.same
    refine ev_W.brT (flw_10 (by decide) rfl) rfl rfl ?_
    exact k _ _ Jn
  · refine ev_W.fn (flw_10 (by decide) rfl) rfl ?_
    refine ev_W.fn (flw_10 (by decide) rfl) rfl ?_
    refine ev_W.fn (flw_10 (by decide) rfl) rfl ?_
    refine ev_W.fn (flw_10 (by decide) rfl) rfl ?_
    refine ev_W.fn (flw_10 (by decide) rfl) rfl ?_
    refine ev_W.sldN (flw_10 (by decide) rfl) (nI_1 _) (by omega) (by omega) rfl ?_
    refine ev_W.clR (flw_10 (by decide) rfl) rfl rfl rfl rfl oc ?_
    refine c_store0 J hx ?_
    have Jm := J.same
    obtain ⟨fz, oz⟩ := Jm.o
    refine ev_W.fn (flw_10 (by decide) rfl) rfl ?_
    refine ev_W.fn (flw_10 (by decide) rfl) rfl ?_
    refine ev_W.fn (flw_10 (by decide) rfl) rfl ?_
    refine ev_W.fn (flw_10 (by decide) rfl) rfl ?_
    refine ev_W.fn (flw_10 (by decide) rfl) rfl ?_
    refine ev_W.sldN (flw_10 (by decide) rfl) (nI_1 _) (by omega) (by omega) rfl ?_
    refine ev_W.clR (flw_10 (by decide) rfl) rfl rfl rfl rfl oz ?_
    refine z_store0 Jm hx ?_
    have Jn := Jm.same
    refine ev_W.fn (flw_10 (by decide) rfl) rfl ?_
    exact k _ _ Jn
theorem law_18 (hN : N < 2 ^ 30) (hj : 7 * j + 7 ≤ Ls) (hL : Ls ≤ 3584) (J : jn z sz N s h) (k : ∀ s' h', jn z sz (N + 1) s' h' → ev_W (mk_law b Ls xs z) (1075, lwL b sz j, [], h') Q) : ev_W (mk_law b Ls xs z) (929, lwL b sz j, [], h) Q := by
  obtain ⟨fc, oc⟩ := J.o
  refine ev_W.fn (flw_10 (by decide) rfl) rfl ?_
  refine ev_W.fn (flw_10 (by decide) rfl) rfl ?_
  refine ev_W.fn (flw_10 (by decide) rfl) rfl ?_
  refine ev_W.fn (flw_10 (by decide) rfl) rfl ?_
  refine ev_W.fn (flw_10 (by decide) rfl) rfl ?_
  refine ev_W.sldN (flw_10 (by decide) rfl) (nI_1 _) (by omega) (by omega) rfl ?_
  refine ev_W.fn (flw_10 (by decide) rfl) rfl ?_
  refine ev_W.fn (flw_10 (by decide) rfl) rfl ?_
  refine ev_W.fn (flw_10 (by decide) rfl) rfl ?_
  refine ev_W.fn (flw_10 (by decide) rfl) rfl ?_
  refine ev_W.fn (flw_10 (by decide) rfl) rfl ?_
  refine ev_W.fn (flw_10 (by decide) rfl) rfl ?_
  refine ev_W.fn (flw_10 (by decide) rfl) rfl ?_
  refine ev_W.sldN (flw_10 (by decide) rfl) (nI_add _ 2) (by omega) (by omega) rfl ?_
  refine ev_W.fn (flw_10 (by decide) rfl) rfl ?_
  refine ev_W.fn (flw_10 (by decide) rfl) rfl ?_
  refine ev_W.fn (flw_10 (by decide) rfl) rfl ?_
  refine ev_W.fn (flw_10 (by decide) rfl) rfl ?_
  refine ev_W.clR (flw_10 (by decide) rfl) rfl rfl rfl rfl oc ?_
  refine c_retained J ?_
  have Jm := J.same
  obtain ⟨fz, oz⟩ := Jm.o
  refine ev_W.fn (flw_11 (by decide) rfl) rfl ?_
  refine ev_W.fn (flw_11 (by decide) rfl) rfl ?_
  refine ev_W.fn (flw_11 (by decide) rfl) rfl ?_
  refine ev_W.fn (flw_11 (by decide) rfl) rfl ?_
  refine ev_W.fn (flw_11 (by decide) rfl) rfl ?_
  refine ev_W.sldN (flw_11 (by decide) rfl) (nI_1 _) (by omega) (by omega) rfl ?_
  refine ev_W.fn (flw_11 (by decide) rfl) rfl ?_
  refine ev_W.fn (flw_11 (by decide) rfl) rfl ?_
  refine ev_W.fn (flw_11 (by decide) rfl) rfl ?_
  refine ev_W.fn (flw_11 (by decide) rfl) rfl ?_
  refine ev_W.fn (flw_11 (by decide) rfl) rfl ?_
  refine ev_W.fn (flw_11 (by decide) rfl) rfl ?_
  refine ev_W.fn (flw_11 (by decide) rfl) rfl ?_
  refine ev_W.sldN (flw_11 (by decide) rfl) (nI_add _ 2) (by omega) (by omega) rfl ?_
  refine ev_W.fn (flw_11 (by decide) rfl) rfl ?_
  refine ev_W.fn (flw_11 (by decide) rfl) rfl ?_
  refine ev_W.fn (flw_11 (by decide) rfl) rfl ?_
  refine ev_W.fn (flw_11 (by decide) rfl) rfl ?_
  refine ev_W.clR (flw_11 (by decide) rfl) rfl rfl rfl rfl oz ?_
  refine z_retained Jm ?_
  have Jn := Jm.same
  refine ev_W.brT (flw_11 (by decide) rfl) rfl rfl ?_
  exact k _ _ Jn
theorem law_19 (hN : N < 2 ^ 30) (hj : 7 * j + 7 ≤ Ls) (hL : Ls ≤ 3584) (J : jn z sz N s h) (k : ∀ s' h', jn z sz (N + 1) s' h' → ev_W (mk_law b Ls xs z) (1075, lwL b sz j, [], h') Q) : ev_W (mk_law b Ls xs z) (982, lwL b sz j, [], h) Q := by
  obtain ⟨fc, oc⟩ := J.o
  refine ev_W.fn (flw_11 (by decide) rfl) rfl ?_
  refine ev_W.fn (flw_11 (by decide) rfl) rfl ?_
  refine ev_W.fn (flw_11 (by decide) rfl) rfl ?_
  refine ev_W.fn (flw_11 (by decide) rfl) rfl ?_
  refine ev_W.fn (flw_11 (by decide) rfl) rfl ?_
  refine ev_W.sldN (flw_11 (by decide) rfl) (nI_1 _) (by omega) (by omega) rfl ?_
  refine ev_W.fn (flw_11 (by decide) rfl) rfl ?_
  refine ev_W.fn (flw_11 (by decide) rfl) rfl ?_
  refine ev_W.fn (flw_11 (by decide) rfl) rfl ?_
  refine ev_W.fn (flw_11 (by decide) rfl) rfl ?_
  refine ev_W.fn (flw_11 (by decide) rfl) rfl ?_
  refine ev_W.fn (flw_11 (by decide) rfl) rfl ?_
  refine ev_W.fn (flw_11 (by decide) rfl) rfl ?_
  refine ev_W.sldN (flw_11 (by decide) rfl) (nI_add _ 2) (by omega) (by omega) rfl ?_
  refine ev_W.fn (flw_11 (by decide) rfl) rfl ?_
  refine ev_W.fn (flw_11 (by decide) rfl) rfl ?_
  refine ev_W.fn (flw_11 (by decide) rfl) rfl ?_
  refine ev_W.fn (flw_11 (by decide) rfl) rfl ?_
  refine ev_W.fn (flw_11 (by decide) rfl) rfl ?_
  refine ev_W.fn (flw_11 (by decide) rfl) rfl ?_
  refine ev_W.fn (flw_11 (by decide) rfl) rfl ?_
  refine ev_W.fn (flw_11 (by decide) rfl) rfl ?_
  refine ev_W.sldN (flw_11 (by decide) rfl) (nI_add _ 3) (by omega) (by omega) rfl ?_
  refine ev_W.fn (flw_11 (by decide) rfl) rfl ?_
  refine ev_W.fn (flw_11 (by decide) rfl) rfl ?_
  refine ev_W.fn (flw_11 (by decide) rfl) rfl ?_
  refine ev_W.fn (flw_11 (by decide) rfl) rfl ?_
  refine ev_W.fn (flw_11 (by decide) rfl) rfl ?_
  refine ev_W.fn (flw_11 (by decide) rfl) rfl ?_
  refine ev_W.fn (flw_11 (by decide) rfl) rfl ?_
  refine ev_W.sldN (flw_11 (by decide) rfl) (nI_add _ 4) (by omega) (by omega) rfl ?_
  refine ev_W.fn (flw_11 (by decide) rfl) rfl ?_
  refine ev_W.fn (flw_11 (by decide) rfl) rfl ?_
  refine ev_W.fn (flw_11 (by decide) rfl) rfl ?_
  refine ev_W.fn (flw_11 (by decide) rfl) rfl ?_
  refine ev_W.clR (flw_11 (by decide) rfl) rfl rfl rfl rfl oc ?_
  refine c_matches ?_
  have Jm := J.same
  obtain ⟨fz, oz⟩ := Jm.o
  refine ev_W.fn (flw_11 (by decide) rfl) rfl ?_
  refine ev_W.fn (flw_11 (by decide) rfl) rfl ?_
  refine ev_W.fn (flw_12 (by decide) rfl) rfl ?_
  refine ev_W.fn (flw_12 (by decide) rfl) rfl ?_
  refine ev_W.fn (flw_12 (by decide) rfl) rfl ?_
  refine ev_W.sldN (flw_12 (by decide) rfl) (nI_1 _) (by omega) (by omega) rfl ?_
  refine ev_W.fn (flw_12 (by decide) rfl) rfl ?_
  refine ev_W.fn (flw_12 (by decide) rfl) rfl ?_
  refine ev_W.fn (flw_12 (by decide) rfl) rfl ?_
  refine ev_W.fn (flw_12 (by decide) rfl) rfl ?_
  refine ev_W.fn (flw_12 (by decide) rfl) rfl ?_
  refine ev_W.fn (flw_12 (by decide) rfl) rfl ?_
  refine ev_W.fn (flw_12 (by decide) rfl) rfl ?_
  refine ev_W.sldN (flw_12 (by decide) rfl) (nI_add _ 2) (by omega) (by omega) rfl ?_
  refine ev_W.fn (flw_12 (by decide) rfl) rfl ?_
  refine ev_W.fn (flw_12 (by decide) rfl) rfl ?_
  refine ev_W.fn (flw_12 (by decide) rfl) rfl ?_
  refine ev_W.fn (flw_12 (by decide) rfl) rfl ?_
  refine ev_W.fn (flw_12 (by decide) rfl) rfl ?_
  refine ev_W.fn (flw_12 (by decide) rfl) rfl ?_
  refine ev_W.fn (flw_12 (by decide) rfl) rfl ?_
  refine ev_W.fn (flw_12 (by decide) rfl) rfl ?_
  refine ev_W.sldN (flw_12 (by decide) rfl) (nI_add _ 3) (by omega) (by omega) rfl ?_
  refine ev_W.fn (flw_12 (by decide) rfl) rfl ?_
  refine ev_W.fn (flw_12 (by decide) rfl) rfl ?_
  refine ev_W.fn (flw_12 (by decide) rfl) rfl ?_
  refine ev_W.fn (flw_12 (by decide) rfl) rfl ?_
  refine ev_W.fn (flw_12 (by decide) rfl) rfl ?_
  refine ev_W.fn (flw_12 (by decide) rfl) rfl ?_
  refine ev_W.fn (flw_12 (by decide) rfl) rfl ?_
  refine ev_W.sldN (flw_12 (by decide) rfl) (nI_add _ 4) (by omega) (by omega) rfl ?_
  refine ev_W.fn (flw_12 (by decide) rfl) rfl ?_
  refine ev_W.fn (flw_12 (by decide) rfl) rfl ?_
  refine ev_W.fn (flw_12 (by decide) rfl) rfl ?_
  refine ev_W.fn (flw_12 (by decide) rfl) rfl ?_
  refine ev_W.clR (flw_12 (by decide) rfl) rfl rfl rfl rfl oz ?_
  refine z_matches Jm (fun h2 Jn => ?_)
  refine ev_W.brT (flw_12 (by decide) rfl) rfl rfl ?_
  exact k _ _ Jn
end LC
