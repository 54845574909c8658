/-! The reference's client: its store (laid by wip/whole/p99.py). -/
theorem oP.st {x : hb_Pa} (h : oP x) : (x.2.1 = 0 ∧ x.2.2 = 0) ∨ (x.2.1 = 1 ∧ idp x.2.2) ∨ (x.2.1 = 2 ∧ idp x.2.2 ∧ x.1.2.2.1 = 2) := by
  rcases h.2 with ⟨a, b⟩ | ⟨a | ⟨a, d⟩, b⟩
  · exact Or.inl ⟨a, b⟩
  · exact Or.inr (Or.inl ⟨a, b⟩)
  · exact Or.inr (Or.inr ⟨a, b, d⟩)
theorem oP.le {x : hb_Pa} (h : oP x) : x.2.1 ≤ 0 ↔ x.2.1 = 0 := by
  rcases h.st with ⟨a, _⟩ | ⟨a, _⟩ | ⟨a, _⟩ <;> rw [a] <;> decide
-- the least free id, as the reference looks for it
def fis (l : List Int32) (i : Int32) : Int32 := l.foldl (fun i x => if x = i then i + 1 else i) i
def fit_ : Nat → List Int32 → Int32 → Int32
  | 0, _, i => i
  | n + 1, l, i => fit_ n l (fis l i)
theorem least_eq {ps : List hb_Pa} (h : ∀ x, x ∈ ps → idr x.2.2) {v : Nat} (h1 : 1 ≤ v) (h8 : v < 8) (hn : ∀ x, x ∈ ps → ¬ x.2.2 = nI v) (hu : ∀ k, 1 ≤ k → k < v → ∃ x, x ∈ ps ∧ x.2.2 = nI k) : pa_id ps = v := by
  obtain ⟨a, b, c, d⟩ := lf_ok h 7 1 rfl
  have e : pa_id ps = pa_lf (pa_us ps) 7 1 := rfl
  rw [← e] at a b c d
  rcases Nat.lt_trichotomy (pa_id ps) v with q | q | q
  · obtain ⟨x, hx, ex⟩ := hu _ a q
    exact absurd ex (c (by omega) x hx)
  · exact q
  · obtain ⟨x, hx, ex⟩ := d v h1 q
    exact absurd ex (hn x hx)
def lst2 (a b : Nat) : Nat := if ¬ a = 1 ∧ ¬ b = 1 then 1 else if ¬ a = 2 ∧ ¬ b = 2 then 2 else 3
theorem fit2 {a b : Nat} (ha : a < 8) (hb : b < 8) (n : Nat) (hn : n = 4 ∨ n = 6) : fit_ n [nI a, nI b] 1 = nI (lst2 a b) ∧ fit_ n [nI a] 1 = nI (lst2 a 0) ∧ fit_ n [] 1 = 1 := by
  have h : ∀ a, a < 8 → ∀ b, b < 8 → (fit_ 4 [nI a, nI b] 1 = nI (lst2 a b) ∧ fit_ 4 [nI a] 1 = nI (lst2 a 0) ∧ fit_ 4 [] 1 = 1) ∧ (fit_ 6 [nI a, nI b] 1 = nI (lst2 a b) ∧ fit_ 6 [nI a] 1 = nI (lst2 a 0) ∧ fit_ 6 [] 1 = 1) := by decide +kernel
  rcases hn with rfl | rfl
  · exact (h a ha b hb).1
  · exact (h a ha b hb).2
theorem lst2_ok (a b : Nat) : 1 ≤ lst2 a b ∧ lst2 a b < 4 ∧ ¬ a = lst2 a b ∧ ¬ b = lst2 a b ∧ ∀ k, 1 ≤ k → k < lst2 a b → a = k ∨ b = k := by
  unfold lst2
  split
  · exact ⟨by omega, by omega, by omega, by omega, fun k h1 h2 => by omega⟩
  · split
    · exact ⟨by omega, by omega, by omega, by omega, fun k h1 h2 => by omega⟩
    · exact ⟨by omega, by omega, by omega, by omega, fun k h1 h2 => by omega⟩
-- ids of those that have one
theorem fit_id {ps : List hb_Pa} {f : List hb_Pa} (h : ∀ x, x ∈ ps → idr x.2.2) (hf : ∀ x, x ∈ ps → ¬ x.2.2 = 0 → x ∈ f) (hs : ∀ x, x ∈ f → x ∈ ps ∧ ¬ x.2.2 = 0) (hl : f.length ≤ 2) {n : Nat} (hn : n = 4 ∨ n = 6) : fit_ n (f.map (fun x => x.2.2)) 1 = nI (pa_id ps) := by
  have z0 : ∀ k, 1 ≤ k → k < 8 → ¬ nI k = 0 := fun k h1 h2 q => by have := (nI_eq (b := 0) (by omega) (by decide)).mp q; omega
  match f, hl with
  | [], _ =>
    have : pa_id ps = 1 := least_eq h (Nat.le_refl _) (by decide) (fun x hx e => by have := hf x hx (by rw [e]; exact z0 1 (by decide) (by decide)); cases this) (fun k h1 h2 => by omega)
    rw [this]; exact (fit2 (a := 0) (b := 0) (by decide) (by decide) n hn).2.2
  | [x], _ =>
    obtain ⟨a, ha, ea⟩ := h x (hs x List.mem_cons_self).1
    obtain ⟨l1, l2, l3, l4, l5⟩ := lst2_ok a 0
    have : pa_id ps = lst2 a 0 := by
      refine least_eq h l1 (by omega) (fun y hy e => ?_) (fun k h1 h2 => ?_)
      · have := hf y hy (by rw [e]; exact z0 _ l1 (by omega))
        rw [List.mem_singleton.mp this, ea] at e
        exact l3 ((nI_eq (by omega) (by omega)).mp e)
      · rcases l5 k h1 h2 with q | q
        · exact ⟨x, (hs x List.mem_cons_self).1, by rw [ea, q]⟩
        · omega
    rw [this, List.map_cons, List.map_nil, ea]; exact (fit2 (b := 0) ha (by decide) n hn).2.1
  | [x, y], _ =>
    obtain ⟨a, ha, ea⟩ := h x (hs x List.mem_cons_self).1
    obtain ⟨b, hb, eb⟩ := h y (hs y (List.mem_cons_of_mem _ List.mem_cons_self)).1
    obtain ⟨l1, l2, l3, l4, l5⟩ := lst2_ok a b
    have : pa_id ps = lst2 a b := by
      refine least_eq h l1 (by omega) (fun w hw e => ?_) (fun k h1 h2 => ?_)
      · have := hf w hw (by rw [e]; exact z0 _ l1 (by omega))
        simp only [List.mem_cons, List.not_mem_nil, or_false] at this
        rcases this with rfl | rfl
        · rw [ea] at e; exact l3 ((nI_eq (by omega) (by omega)).mp e)
        · rw [eb] at e; exact l4 ((nI_eq (by omega) (by omega)).mp e)
      · rcases l5 k h1 h2 with q | q
        · exact ⟨x, (hs x List.mem_cons_self).1, by rw [ea, q]⟩
        · exact ⟨y, (hs y (List.mem_cons_of_mem _ List.mem_cons_self)).1, by rw [eb, q]⟩
    rw [this, List.map_cons, List.map_cons, List.map_nil, ea, eb]; exact (fit2 ha hb n hn).1
  | _ :: _ :: _ :: _, hl => simp at hl
def uwl (ps : List hb_Pa) : List Int32 := (ps.filter (fun x => decide (¬ x.2.1 = 0))).map (fun x => x.2.2)
theorem fit_st {ps : List hb_Pa} (h : ∀ x, x ∈ ps → oP x) (hu : pa_uw ps ≤ 2) : fit_ 4 (uwl ps) 1 = nI (pa_id ps) := by
  refine fit_id (f := ps.filter (fun x => decide (¬ x.2.1 = 0))) (fun x hx => (h x hx).i) (fun x hx h0 => ?_) (fun x hx => ?_) hu (Or.inl rfl)
  · refine List.mem_filter.mpr ⟨hx, decide_eq_true ?_⟩
    rcases (h x hx).st with ⟨_, b⟩ | ⟨a, _⟩ | ⟨a, _⟩
    · exact absurd b h0
    · rw [a]; decide
    · rw [a]; decide
  · have m := List.mem_filter.mp hx
    refine ⟨m.1, ?_⟩
    have h0 := of_decide_eq_true m.2
    rcases (h x m.1).st with ⟨a, _⟩ | ⟨_, b⟩ | ⟨_, b, _⟩
    · exact absurd a h0
    · exact b.n0
    · exact b.n0
theorem fis_app (l : List Int32) (i a : Int32) : fis (l ++ [a]) i = if a = fis l i then fis l i + 1 else fis l i := by
  unfold fis; rw [List.foldl_append]; rfl
theorem uwl_take {ps : List hb_Pa} {i : Nat} {x : hb_Pa} (hi : ps[i]? = some x) : uwl (ps.take (i + 1)) = uwl (ps.take i) ++ (if x.2.1 = 0 then [] else [x.2.2]) := by
  unfold uwl
  rw [List.take_add_one, hi, List.filter_append, List.map_append]
  by_cases q : x.2.1 = 0 <;> simp [q]
section ZC
variable {z : Nat × Nat} {m0 : Nat} {s : hb_S} {p : hb_Pk} {t : rf_S} {h : ev_H} {Q : ev_O → Prop} {c l : Nat}
theorem sp_zuw_loop (R : zR z m0 s p t h) (hc : c < 3) (hS : okS (sP s c)) (k : Q (some (.int (nI (pa_uw (sP s c)))), h)) : ∀ (m i : Nat), i + m = (sP s c).length → ev_W (mk_Z_underWay z) (4, [some (.ref m0), some (.int (nI c)), some (.int (nI (pa_uw ((sP s c).take i)))), some (.int (nI i))], [], h) Q := by
  have h4 := hS.1
  intro m
  induction m with
  | zero =>
    intro i hi
    refine ev_W.fn rfl rfl ?_
    refine ev_W.fn rfl rfl ?_
    refine ev_W.obj rfl R.ob rfl ?_
    refine ev_W.fn rfl rfl ?_
    refine ev_W.g23 R hc rfl rfl ?_
    refine ev_W.brT rfl rfl (nI_le (by omega) (by omega)) ?_
    refine ev_W.fn rfl rfl ?_
    refine ev_W.ret rfl rfl ?_
    rw [List.take_of_length_le (by omega)]
    exact k
  | succ m ih =>
    intro i hi
    obtain ⟨x, hx⟩ : ∃ x, (sP s c)[i]? = some x := ⟨_, List.getElem?_eq_getElem (by omega)⟩
    have hP := hS.2.1 x (List.mem_of_getElem? hx)
    have e := pa_uw_take hx
    have nx := ih (i + 1) (by omega)
    rw [← nI_1] at nx
    refine ev_W.fn rfl rfl ?_
    refine ev_W.fn rfl rfl ?_
    refine ev_W.obj rfl R.ob rfl ?_
    refine ev_W.fn rfl rfl ?_
    refine ev_W.g23 R hc rfl rfl ?_
    refine ev_W.brF rfl rfl (nI_ge (by omega) (by omega)) ?_
    refine ev_W.fn rfl rfl ?_
    refine ev_W.obj rfl R.ob rfl ?_
    refine ev_W.fn rfl rfl ?_
    refine ev_W.fn rfl rfl ?_
    refine ev_W.fn rfl rfl ?_
    refine ev_W.fn rfl rfl ?_
    refine ev_W.fn rfl rfl ?_
    refine ev_W.g28 R hc hx (zma 4 c i) rfl ?_
    refine ev_W.br rfl rfl (fun h1 => ?_) (fun h1 => ?_)
    · refine ev_W.fn rfl rfl ?_
      refine ev_W.fn rfl rfl ?_
      refine ev_W.fn rfl rfl ?_
      refine ev_W.fn rfl rfl ?_
      rw [e, if_pos (hP.le.mp h1)] at nx
      exact nx
    · refine ev_W.fn rfl rfl ?_
      refine ev_W.fn rfl rfl ?_
      refine ev_W.fn rfl rfl ?_
      refine ev_W.fn rfl rfl ?_
      refine ev_W.fn rfl rfl ?_
      refine ev_W.fn rfl rfl ?_
      refine ev_W.fn rfl rfl ?_
      rw [e, if_neg (fun q => h1 (hP.le.mpr q)), ← nI_1] at nx
      exact nx
theorem sp_Z_underWay (R : zR z m0 s p t h) (hc : c < 3) (hS : okS (sP s c)) (k : Q (some (.int (nI (pa_uw (sP s c)))), h)) : ev_M (mf_Z_underWay z) [.ref m0, .int (nI c)] h Q := by
  refine ev_M.go rfl rfl ?_
  refine ev_W.fn rfl rfl ?_
  refine ev_W.fn rfl rfl ?_
  refine ev_W.fn rfl rfl ?_
  refine ev_W.fn rfl rfl ?_
  exact sp_zuw_loop R hc hS k _ 0 (Nat.zero_add _)
theorem sp_zfi_in (R : zR z m0 s p t h) (hc : c < 3) (hS : okS (sP s c)) {v : Int32} {rd : Nat} (k : ∀ y : Option Value, ev_W (mk_Z_freeId z) (66, [some (.ref m0), some (.int (nI c)), some (.int (fis (uwl (sP s c)) v)), some (.int (nI rd)), y], [], h) Q) : ∀ (m i : Nat), i + m = (sP s c).length → ev_W (mk_Z_freeId z) (12, [some (.ref m0), some (.int (nI c)), some (.int (fis (uwl ((sP s c).take i)) v)), some (.int (nI rd)), some (.int (nI i))], [], h) Q := by
  have h4 := hS.1
  intro m
  induction m with
  | zero =>
    intro i hi
    refine ev_W.fn rfl rfl ?_
    refine ev_W.fn rfl rfl ?_
    refine ev_W.obj rfl R.ob rfl ?_
    refine ev_W.fn rfl rfl ?_
    refine ev_W.g23 R hc rfl rfl ?_
    refine ev_W.brT rfl rfl (nI_le (by omega) (by omega)) ?_
    rw [List.take_of_length_le (by omega)]
    exact k _
  | succ m ih =>
    intro i hi
    obtain ⟨x, hx⟩ : ∃ x, (sP s c)[i]? = some x := ⟨_, List.getElem?_eq_getElem (by omega)⟩
    have hP := hS.2.1 x (List.mem_of_getElem? hx)
    have e := uwl_take hx
    have nx := ih (i + 1) (by omega)
    rw [← nI_1] at nx
    refine ev_W.fn rfl rfl ?_
    refine ev_W.fn rfl rfl ?_
    refine ev_W.obj rfl R.ob rfl ?_
    refine ev_W.fn rfl rfl ?_
    refine ev_W.g23 R hc rfl rfl ?_
    refine ev_W.brF rfl rfl (nI_ge (by omega) (by omega)) ?_
    refine ev_W.fn rfl rfl ?_
    refine ev_W.obj rfl R.ob rfl ?_
    refine ev_W.fn rfl rfl ?_
    refine ev_W.fn rfl rfl ?_
    refine ev_W.fn rfl rfl ?_
    refine ev_W.fn rfl rfl ?_
    refine ev_W.fn rfl rfl ?_
    refine ev_W.g28 R hc hx (zma 4 c i) rfl ?_
    refine ev_W.br rfl rfl (fun h1 => ?_) (fun h1 => ?_)
    · refine ev_W.fn rfl rfl ?_
      refine ev_W.fn rfl rfl ?_
      refine ev_W.fn rfl rfl ?_
      refine ev_W.fn rfl rfl ?_
      rw [e, if_pos (hP.le.mp h1), List.append_nil] at nx
      exact nx
    · have h0 : ¬ x.2.1 = 0 := fun q => h1 (hP.le.mpr q)
      rw [e, if_neg h0, fis_app] at nx
      refine ev_W.fn rfl rfl ?_
      refine ev_W.obj rfl R.ob rfl ?_
      refine ev_W.fn rfl rfl ?_
      refine ev_W.fn rfl rfl ?_
      refine ev_W.fn rfl rfl ?_
      refine ev_W.fn rfl rfl ?_
      refine ev_W.fn rfl rfl ?_
      refine ev_W.g29 R hc hx h0 (zma 4 c i) rfl ?_
      refine ev_W.fn rfl rfl ?_
      refine ev_W.br rfl rfl (fun h2 => ?_) (fun h2 => ?_)
      · refine ev_W.fn rfl rfl ?_
        refine ev_W.fn rfl rfl ?_
        refine ev_W.fn rfl rfl ?_
        refine ev_W.fn rfl rfl ?_
        rw [if_neg h2] at nx
        exact nx
      · refine ev_W.fn rfl rfl ?_
        refine ev_W.fn rfl rfl ?_
        refine ev_W.fn rfl rfl ?_
        refine ev_W.fn rfl rfl ?_
        refine ev_W.fn rfl rfl ?_
        refine ev_W.fn rfl rfl ?_
        refine ev_W.fn rfl rfl ?_
        rw [if_pos (Decidable.not_not.mp h2)] at nx
        exact nx
theorem sp_zfi_out (R : zR z m0 s p t h) (hc : c < 3) (hS : okS (sP s c)) : ∀ (m rd : Nat) (v : Int32) (y : Option Value), rd + m = 4 → Q (some (.int (fit_ m (uwl (sP s c)) v)), h) → ev_W (mk_Z_freeId z) (4, [some (.ref m0), some (.int (nI c)), some (.int v), some (.int (nI rd)), y], [], h) Q := by
  intro m
  induction m with
  | zero =>
    intro rd v y hr k
    refine ev_W.fn rfl rfl ?_
    refine ev_W.fn rfl rfl ?_
    refine ev_W.brT rfl rfl (nI_le (a := 4) (by omega) (by omega)) ?_
    refine ev_W.fn rfl rfl ?_
    refine ev_W.ret rfl rfl ?_
    exact k
  | succ m ih =>
    intro rd v y hr k
    refine ev_W.fn rfl rfl ?_
    refine ev_W.fn rfl rfl ?_
    refine ev_W.brF rfl rfl (nI_ge (b := 4) (by omega) (by omega)) ?_
    refine ev_W.fn rfl rfl ?_
    refine ev_W.fn rfl rfl ?_
    refine sp_zfi_in R hc hS (v := v) (fun y => ?_) _ 0 (Nat.zero_add _)
    refine ev_W.fn rfl rfl ?_
    refine ev_W.fn rfl rfl ?_
    have nx := ih (rd + 1) (fis (uwl (sP s c)) v) y (by omega) k
    rw [← nI_1] at nx
    exact nx
theorem sp_Z_freeId (R : zR z m0 s p t h) (hc : c < 3) (hS : okS (sP s c)) (k : Q (some (.int (nI (pa_id (sP s c)))), h)) : ev_M (mf_Z_freeId z) [.ref m0, .int (nI c)] h Q := by
  rw [← fit_st hS.2.1 hS.2.2.2] at k
  refine ev_M.go rfl rfl ?_
  refine ev_W.fn rfl rfl ?_
  refine ev_W.fn rfl rfl ?_
  refine ev_W.fn rfl rfl ?_
  refine ev_W.fn rfl rfl ?_
  exact sp_zfi_out R hc hS 4 0 1 _ rfl k
theorem sp_Z_sendStored {i : Int32} {j : Nat} {x : hb_Pa} {a : Bool} (R : zR z m0 s p t h) (hc : c < 3) (hx : (sP s c)[j]? = some x) (h0 : ¬ x.2.1 = 0) (hi : i = nI (4 * c + j)) (h30 : (sN s (2 * c)).length ≤ 30) (k : ∀ t' h', zR z m0 (M_up s c (3, x.2.2, x.1.2.1, x.1.1, x.1.2.2.1, a, x.1.2.2.2, 0, 0, 0)) p t' h' → rf_E m0 h h' → Q (none, h')) : ev_M (mf_Z_sendStored z) [.ref m0, .int (nI c), .int i, .int (zb a)] h Q := by
  have e2 : (2 : Int32) * nI c = nI (2 * c) := zm 2 c
  refine ev_M.go rfl rfl ?_
  refine ev_W.fn rfl rfl ?_
  refine ev_W.fn rfl rfl ?_
  refine ev_W.fn rfl rfl ?_
  refine ev_W.fn rfl rfl ?_
  refine ev_W.fn rfl rfl ?_
  refine ev_W.obj rfl R.ob rfl ?_
  refine ev_W.fn rfl rfl ?_
  refine ev_W.g24 R hc hx hi rfl ?_
  refine ev_W.fn rfl rfl ?_
  refine ev_W.obj rfl R.ob rfl ?_
  refine ev_W.fn rfl rfl ?_
  refine ev_W.g25 R hc hx hi rfl ?_
  refine ev_W.fn rfl rfl ?_
  refine ev_W.obj rfl R.ob rfl ?_
  refine ev_W.fn rfl rfl ?_
  refine ev_W.g26 R hc hx hi rfl ?_
  refine ev_W.fn rfl rfl ?_
  refine ev_W.obj rfl R.ob rfl ?_
  refine ev_W.fn rfl rfl ?_
  refine ev_W.g29 R hc hx h0 hi rfl ?_
  rw [e2]
  refine ev_W.clR rfl rfl rfl rfl rfl R.ob ?_
  refine sp_Z_sendPublish R (by omega) h30 rfl (fun t1 u1 R1 E1 => ?_)
  refine ev_W.fn rfl rfl ?_
  refine ev_W.fn rfl rfl ?_
  refine ev_W.fn rfl rfl ?_
  refine ev_W.fn rfl rfl ?_
  refine ev_W.fn rfl rfl ?_
  refine ev_W.fn rfl rfl ?_
  refine ev_W.obj rfl R1.ob rfl ?_
  refine ev_W.fn rfl rfl ?_
  refine ev_W.g27 R1 hc hx hi rfl ?_
  rw [e2]
  refine ev_W.clR rfl rfl rfl rfl rfl R1.ob ?_
  refine sp_Z_marked R1 (old := sN s (2 * c)) (by omega) (sN_tN _ _ _) (by show ¬ (3 : Int32) = 1; decide) (fun t2 u2 R2 E2 => ?_)
  refine ev_W.ret rfl rfl ?_
  rw [tN_tN] at R2
  exact k _ _ R2 (E1.tr E2)
end ZC
