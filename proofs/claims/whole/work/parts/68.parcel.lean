/-! Parcels over the hub's picture (laid by wip/whole/p68.py). -/
def pa_at (dyn : Nat) (G : hb_G) (h : ev_H) (j a ma : Nat) (x : hb_Pa) : Prop := h.2.2 a = some (.inr (10, [.ref ma, .int x.2.1, .int x.2.2])) ∧ G.1 a = 100 + j ∧ dyn ≤ a ∧ h.2.2 ma = some (.inr (9, hb_msF x.1)) ∧ G.1 ma = 0 ∧ dyn ≤ ma
section PS
variable {z : Nat × Nat} {sz dyn : Nat} {mu : Nat → Option ev_E} {G : hb_G} {n1 n2 l : Nat} {s : hb_S} {h : ev_H} {Q : ev_O → Prop}
theorem hb_pj_lt (hl : l < 6) : hb_pj l < 19 := by unfold hb_pj; split <;> omega
theorem hb_R.plen (R : hb_R z sz dyn mu G n1 n2 s h) (hl : l < 6) : (sP s l).length ≤ 40 := by
  have := R.cap (hb_pj_lt hl); rw [XP_at s hl, List.length_map] at this; exact this
theorem hb_R.psize (R : hb_R z sz dyn mu G n1 n2 s h) (hl : l < 6) (k : Q (some (.int (nI (sP s l).length)), h)) : ev_M (mf_A_size z) [.ref (sz + hb_ro (hb_pj l))] h Q := by
  refine R.size (hb_pj_lt hl) ?_
  rw [XP_at s hl, List.length_map]; exact k
theorem hb_R.pget {i : Nat} {x : hb_Pa} (R : hb_R z sz dyn mu G n1 n2 s h) (hl : l < 6) (hi : (sP s l)[i]? = some x) (k : ∀ a ma, (G.2.1 (hb_pj l))[i]? = some a → pa_at dyn G h (hb_pj l) a ma x → Q (some (.ref a), h)) : ev_M (mf_A_get z) [.ref (sz + hb_ro (hb_pj l)), .int (nI i)] h Q := by
  refine R.get (hb_pj_lt hl) (ev := pe x) (by rw [XP_at s hl, List.getElem?_map, hi]; rfl) (fun a ha hel => ?_)
  obtain ⟨hd, hown, ma, q2, q3, q4, q5⟩ := hel
  exact k a ma ha ⟨q2, hown, hd, q5, q4, q3⟩
-- how many are under way
def pa_uw (ps : List hb_Pa) : Nat := (ps.filter (fun x => decide (¬ x.2.1 = 0))).length
theorem pa_uw_le (ps : List hb_Pa) : pa_uw ps ≤ ps.length := List.length_filter_le _ _
theorem pa_uw_take {ps : List hb_Pa} {i : Nat} {x : hb_Pa} (hi : ps[i]? = some x) : pa_uw (ps.take (i + 1)) = pa_uw (ps.take i) + (if x.2.1 = 0 then 0 else 1) := by
  rw [List.take_add_one, hi]
  unfold pa_uw
  rw [List.filter_append, List.length_append]
  congr 1
  by_cases q : x.2.1 = 0 <;> simp [q]
theorem sp_cuw_loop (R : hb_R z sz dyn mu G n1 n2 s h) (hl : l < 6) (k : Q (some (.int (nI (pa_uw (sP s l)))), h)) : ∀ (m i : Nat), (sP s l).length - i = m → i ≤ (sP s l).length → ev_W (mk_R_countUnderWay z) (4, [some (.ref (sz + hb_ro (hb_pj l))), some (.int (nI (pa_uw ((sP s l).take i)))), some (.int (nI i))], [], h) Q := by
  have hlen := R.plen hl
  obtain ⟨fs, hob⟩ := R.lobj (hb_pj_lt hl)
  intro m
  induction m with
  | zero =>
    intro i hm hi
    have hie : i = (sP s l).length := by omega
    refine ev_W.fn rfl rfl ?_
    refine ev_W.fn rfl rfl ?_
    refine ev_W.clR rfl rfl rfl rfl rfl hob ?_
    refine R.psize hl ?_
    refine ev_W.brT rfl rfl (nI_le (by omega) (by omega)) ?_
    refine ev_W.fn rfl rfl ?_
    refine ev_W.ret rfl rfl ?_
    rw [hie, List.take_length]
    exact k
  | succ m ih =>
    intro i hm hi
    obtain ⟨x, hx⟩ : ∃ x, (sP s l)[i]? = some x := ⟨_, List.getElem?_eq_getElem (by omega)⟩
    refine ev_W.fn rfl rfl ?_
    refine ev_W.fn rfl rfl ?_
    refine ev_W.clR rfl rfl rfl rfl rfl hob ?_
    refine R.psize hl ?_
    refine ev_W.brF rfl rfl (nI_ge (by omega) (by omega)) ?_
    refine ev_W.fn rfl rfl ?_
    refine ev_W.fn rfl rfl ?_
    refine ev_W.clR rfl rfl rfl rfl rfl hob ?_
    refine R.pget hl hx (fun a ma ha hpa => ?_)
    refine ev_W.cast rfl hpa.1 ?_
    refine ev_W.obj rfl hpa.1 rfl ?_
    refine ev_W.br rfl rfl (fun h1 => ?_) (fun h1 => ?_)
    · refine ev_W.fn rfl rfl ?_
      refine ev_W.fn rfl rfl ?_
      have e := pa_uw_take hx
      rw [if_pos h1, Nat.add_zero] at e
      have := ih (i + 1) (by omega) (by omega)
      rw [e, ← nI_1] at this
      exact this
    · refine ev_W.fn rfl rfl ?_
      refine ev_W.fn rfl rfl ?_
      refine ev_W.fn rfl rfl ?_
      have e := pa_uw_take hx
      rw [if_neg h1] at e
      have := ih (i + 1) (by omega) (by omega)
      rw [e, ← nI_1, ← nI_1] at this
      exact this
theorem sp_R_countUnderWay (R : hb_R z sz dyn mu G n1 n2 s h) (hl : l < 6) (k : Q (some (.int (nI (pa_uw (sP s l)))), h)) : ev_M (mf_R_countUnderWay z) [.ref (sz + hb_ro (hb_pj l))] h Q := by
  refine ev_M.go rfl rfl ?_
  refine ev_W.fn rfl rfl ?_
  refine ev_W.fn rfl rfl ?_
  refine ev_W.fn rfl rfl ?_
  refine ev_W.fn rfl rfl ?_
  exact sp_cuw_loop R hl k _ 0 rfl (Nat.zero_le _)
-- the least free id
def pa_us (ps : List hb_Pa) : Int32 := ps.foldl (fun u x => u ||| ((1 : Int32) <<< (x.2.2 &&& 31))) 0
def pa_lf (u : Int32) : Nat → Nat → Nat
  | 0, _ => 8
  | n + 1, i => if u &&& ((1 : Int32) <<< (nI i &&& 31)) = 0 then i else pa_lf u n (i + 1)
def pa_id (ps : List hb_Pa) : Nat := pa_lf (pa_us ps) 7 1
theorem pa_us_take {ps : List hb_Pa} {i : Nat} {x : hb_Pa} (hi : ps[i]? = some x) : pa_us (ps.take (i + 1)) = pa_us (ps.take i) ||| ((1 : Int32) <<< (x.2.2 &&& 31)) := by
  rw [List.take_add_one, hi]
  unfold pa_us
  rw [List.foldl_append]
  rfl
theorem sp_lfi_loop2 {u : Int32} {b : Option Value} (n : Nat) : ∀ (i : Nat), i + n = 8 → Q (some (.int (nI (pa_lf u n i))), h) → ev_W (mk_R_leastFreeId z) (36, [b, some (.int u), some (.int (nI i))], [], h) Q := by
  induction n with
  | zero =>
    intro i hi k
    have : i = 8 := by omega
    subst this
    refine ev_W.fn rfl rfl ?_
    refine ev_W.fn rfl rfl ?_
    refine ev_W.fn rfl rfl ?_
    refine ev_W.fn rfl rfl ?_
    refine ev_W.ret rfl rfl ?_
    exact k
  | succ n ih =>
    intro i hi k
    refine ev_W.fn rfl rfl ?_
    refine ev_W.fn rfl rfl ?_
    refine ev_W.brF rfl rfl (show ¬ nI 8 ≤ nI i from nI_ge (by omega) (by decide)) ?_
    refine ev_W.fn rfl rfl ?_
    refine ev_W.fn rfl rfl ?_
    refine ev_W.fn rfl rfl ?_
    refine ev_W.fn rfl rfl ?_
    refine ev_W.fn rfl rfl ?_
    refine ev_W.br rfl rfl (fun h1 => ?_) (fun h1 => ?_)
    · refine ev_W.fn rfl rfl ?_
      refine ev_W.fn rfl rfl ?_
      simp only [pa_lf, if_neg h1] at k
      have := ih (i + 1) (by omega) k
      rw [← nI_1] at this
      exact this
    · have h1' : u &&& ((1 : Int32) <<< (nI i &&& 31)) = 0 := Decidable.not_not.mp h1
      refine ev_W.fn rfl rfl ?_
      simp only [pa_lf, if_pos h1'] at k
      exact ev_W.ret rfl rfl k
theorem sp_lfi_loop1 (R : hb_R z sz dyn mu G n1 n2 s h) (hl : l < 6) (k : Q (some (.int (nI (pa_id (sP s l)))), h)) : ∀ (m i : Nat), (sP s l).length - i = m → i ≤ (sP s l).length → ev_W (mk_R_leastFreeId z) (4, [some (.ref (sz + hb_ro (hb_pj l))), some (.int (pa_us ((sP s l).take i))), some (.int (nI i))], [], h) Q := by
  have hlen := R.plen hl
  obtain ⟨fs, hob⟩ := R.lobj (hb_pj_lt hl)
  intro m
  induction m with
  | zero =>
    intro i hm hi
    have hie : i = (sP s l).length := by omega
    refine ev_W.fn rfl rfl ?_
    refine ev_W.fn rfl rfl ?_
    refine ev_W.clR rfl rfl rfl rfl rfl hob ?_
    refine R.psize hl ?_
    refine ev_W.brT rfl rfl (nI_le (by omega) (by omega)) ?_
    refine ev_W.fn rfl rfl ?_
    refine ev_W.fn rfl rfl ?_
    refine sp_lfi_loop2 7 1 rfl ?_
    rw [hie, List.take_length]
    exact k
  | succ m ih =>
    intro i hm hi
    obtain ⟨x, hx⟩ : ∃ x, (sP s l)[i]? = some x := ⟨_, List.getElem?_eq_getElem (by omega)⟩
    refine ev_W.fn rfl rfl ?_
    refine ev_W.fn rfl rfl ?_
    refine ev_W.clR rfl rfl rfl rfl rfl hob ?_
    refine R.psize hl ?_
    refine ev_W.brF rfl rfl (nI_ge (by omega) (by omega)) ?_
    refine ev_W.fn rfl rfl ?_
    refine ev_W.fn rfl rfl ?_
    refine ev_W.fn rfl rfl ?_
    refine ev_W.fn rfl rfl ?_
    refine ev_W.clR rfl rfl rfl rfl rfl hob ?_
    refine R.pget hl hx (fun a ma ha hpa => ?_)
    refine ev_W.cast rfl hpa.1 ?_
    refine ev_W.obj rfl hpa.1 rfl ?_
    refine ev_W.fn rfl rfl ?_
    refine ev_W.fn rfl rfl ?_
    refine ev_W.fn rfl rfl ?_
    refine ev_W.fn rfl rfl ?_
    refine ev_W.fn rfl rfl ?_
    have := ih (i + 1) (by omega) (by omega)
    rw [pa_us_take hx, ← nI_1] at this
    exact this
theorem sp_R_leastFreeId (R : hb_R z sz dyn mu G n1 n2 s h) (hl : l < 6) (k : Q (some (.int (nI (pa_id (sP s l)))), h)) : ev_M (mf_R_leastFreeId z) [.ref (sz + hb_ro (hb_pj l))] h Q := by
  refine ev_M.go rfl rfl ?_
  refine ev_W.fn rfl rfl ?_
  refine ev_W.fn rfl rfl ?_
  refine ev_W.fn rfl rfl ?_
  refine ev_W.fn rfl rfl ?_
  exact sp_lfi_loop1 R hl k _ 0 rfl (Nat.zero_le _)
-- start, waitAgain: a stage and an id
theorem sp_R_start {i a ma : Nat} {x : hb_Pa} {id : Int32} (R : hb_R z sz dyn mu G n1 n2 s h) (hl : l < 6) (hi : (sP s l)[i]? = some x) (ha : (G.2.1 (hb_pj l))[i]? = some a) (hpa : pa_at dyn G h (hb_pj l) a ma x) (k : hb_R z sz dyn mu G n1 n2 (tP s l ((sP s l).set i (x.1, 1, id))) (ev_put h a (.inr (10, [.ref ma, .int 1, .int id]))) → hb_E dyn G h G (ev_put h a (.inr (10, [.ref ma, .int 1, .int id]))) → Q (none, ev_put h a (.inr (10, [.ref ma, .int 1, .int id])))) : ev_M (mf_R_start z) [.ref a, .int id] h Q := by
  refine ev_M.go rfl rfl ?_
  refine ev_W.fn rfl rfl ?_
  refine ev_W.fn rfl rfl ?_
  refine ev_W.putf rfl hpa.1 rfl rfl rfl ?_
  refine ev_W.fn rfl rfl ?_
  refine ev_W.fn rfl rfl ?_
  refine ev_W.putf rfl ev_put_same rfl rfl rfl ?_
  refine ev_W.ret rfl rfl ?_
  rw [ev_put_put]
  exact k (R.par hl hi ha hpa.1 1 id) (hb_E.own (by rw [hpa.2.1]; omega))
theorem sp_R_waitAgain {i a ma : Nat} {x : hb_Pa} (R : hb_R z sz dyn mu G n1 n2 s h) (hl : l < 6) (hi : (sP s l)[i]? = some x) (ha : (G.2.1 (hb_pj l))[i]? = some a) (hpa : pa_at dyn G h (hb_pj l) a ma x) (k : hb_R z sz dyn mu G n1 n2 (tP s l ((sP s l).set i (x.1, 0, 0))) (ev_put h a (.inr (10, [.ref ma, .int 0, .int 0]))) → hb_E dyn G h G (ev_put h a (.inr (10, [.ref ma, .int 0, .int 0]))) → Q (none, ev_put h a (.inr (10, [.ref ma, .int 0, .int 0])))) : ev_M (mf_R_waitAgain z) [.ref a] h Q := by
  refine ev_M.go rfl rfl ?_
  refine ev_W.fn rfl rfl ?_
  refine ev_W.fn rfl rfl ?_
  refine ev_W.putf rfl hpa.1 rfl rfl rfl ?_
  refine ev_W.fn rfl rfl ?_
  refine ev_W.fn rfl rfl ?_
  refine ev_W.putf rfl ev_put_same rfl rfl rfl ?_
  refine ev_W.ret rfl rfl ?_
  rw [ev_put_put]
  exact k (R.par hl hi ha hpa.1 0 0) (hb_E.own (by rw [hpa.2.1]; omega))
end PS
