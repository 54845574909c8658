/-! The hub's other methods (laid by wip/whole/p82.py). -/
section H2
variable {z : Nat × Nat} {sz dyn : Nat} {mu : Nat → Option ev_E} {c : Nat} {Q : ev_O → Prop}
theorem sp_H_tick {n1 n2 : Nat} {G : hb_G} {s : hb_S} {h : ev_H} (R : hb_R z sz dyn mu G n1 n2 s h) (hb : ∀ j, j < 3 → ba 17 s j ∧ iA s j) (k : ∀ (G' : hb_G) (h' : ev_H), hb_R z sz dyn mu G' (n1 + 222) (n2 + 4587) (M_tkF 3 0 s 0).1 h' → hb_E dyn G h G' h' → Q (some (.int (nI (M_tkF 3 0 s 0).2)), h')) : ev_M (mf_H_tick z) [.ref sz] h Q := by
  refine ev_M.go rfl rfl ?_
  refine ev_W.fn rfl rfl ?_
  refine ev_W.obj rfl R.o0 rfl ?_
  refine ev_W.clR rfl rfl rfl rfl rfl R.o5 ?_
  refine sp_B_passTick R hb (fun G1 u1 R1 E1 => ?_)
  refine ev_W.ret rfl rfl ?_
  exact k _ _ (R1.up (by omega) (by omega)) E1
theorem sp_H_crash {n1 n2 : Nat} {G : hb_G} {s : hb_S} {h : ev_H} (R : hb_R z sz dyn mu G n1 n2 s h) (k : ∀ (G' : hb_G) (h' : ev_H), hb_R z sz dyn mu G' n1 n2 (M_bd s) h' → hb_E dyn G h G' h' → Q (none, h')) : ev_M (mf_H_crash z) [.ref sz] h Q := by
  refine ev_M.go rfl rfl ?_
  refine ev_W.fn rfl rfl ?_
  refine ev_W.obj rfl R.o0 rfl ?_
  refine ev_W.clR rfl rfl rfl rfl rfl R.o5 ?_
  refine sp_B_breakDown R (fun G1 u1 R1 E1 => ?_)
  refine ev_W.ret rfl rfl ?_
  exact k _ _ (R1.up (by omega) (by omega)) E1
theorem sp_H_fail {n1 n2 : Nat} {G : hb_G} {s : hb_S} {h : ev_H} {x : Int32} (R : hb_R z sz dyn mu G n1 n2 s h) (k : ∀ (G' : hb_G) (h' : ev_H), hb_R z sz dyn mu G' n1 n2 (if 0 ≤ x ∧ x ≤ 2 then tI s 14 0 x else s) h' → hb_E dyn G h G' h' → Q (some (.int (zb (decide (0 ≤ x ∧ x ≤ 2)))), h')) : ev_M (mf_H_fail z) [.ref sz, .int x] h Q := by
  refine ev_M.go rfl rfl ?_
  refine ev_W.fn rfl rfl ?_
  refine ev_W.fn rfl rfl ?_
  refine ev_W.fn rfl rfl ?_
  refine ev_W.cl rfl rfl rfl rfl rfl ?_
  refine sp_isWithin ?_
  refine ev_W.br rfl rfl (fun h1 => ?_) (fun h1 => ?_)
  · have h1 := of_decide_eq_true (zb_1.mp h1)
    rw [if_pos h1, decide_eq_true h1] at k
    refine ev_W.fn rfl rfl ?_
    refine ev_W.obj rfl R.o0 rfl ?_
    refine ev_W.fn rfl rfl ?_
    refine ev_W.w14 R rfl (fun u1 R1 E1 => ?_)
    refine ev_W.fn rfl rfl ?_
    refine ev_W.zret rfl (Or.inr rfl) ?_
    exact k _ _ (R1.up (by omega) (by omega)) E1
  · have h1 := of_decide_eq_false (zb_n0.mp (Decidable.not_not.mp h1))
    rw [if_neg h1, decide_eq_false h1] at k
    refine ev_W.fn rfl rfl ?_
    refine ev_W.zret rfl (Or.inl rfl) ?_
    exact k _ _ (R.up (by omega) (by omega)) hb_E.rf
theorem sp_H_state {n1 n2 : Nat} {G : hb_G} {s : hb_S} {h : ev_H} (R : hb_R z sz dyn mu G n1 n2 s h) (hc : c < 3) (k : Q (some (.int (H_st s c)), h)) : ev_M (mf_H_state z) [.ref sz, .int (nI c)] h Q := by
  unfold H_st at k
  refine ev_M.go rfl rfl ?_
  refine ev_W.fn rfl rfl ?_
  refine ev_W.cl rfl rfl rfl rfl rfl ?_
  refine sp_isClient ?_
  refine ev_W.brT rfl rfl (zb_1.mpr (decide_eq_true (ncl hc))) ?_
  refine ev_W.fn rfl rfl ?_
  refine ev_W.obj rfl R.o0 rfl ?_
  refine ev_W.fn rfl rfl ?_
  refine ev_W.lk R hc rfl ?_
  refine ev_W.obj rfl (R.o1 hc) rfl ?_
  refine ev_W.fn rfl rfl ?_
  refine ev_W.obj rfl R.o0 rfl ?_
  refine ev_W.obj rfl R.o5 rfl ?_
  refine ev_W.fn rfl rfl ?_
  refine ev_W.nk R hc rfl ?_
  refine ev_W.obj rfl (R.o6 hc) rfl ?_
  refine ev_W.br rfl rfl (fun h1 => ?_) (fun h1 => ?_)
  · rw [if_pos h1] at k
    refine ev_W.fn rfl rfl ?_
    refine ev_W.fn rfl rfl ?_
    refine ev_W.fn rfl rfl ?_
    refine ev_W.obj rfl R.o0 rfl ?_
    refine ev_W.fn rfl rfl ?_
    refine ev_W.lk R hc rfl ?_
    refine ev_W.obj rfl (R.o1 hc) rfl ?_
    refine ev_W.br rfl rfl (fun h2 => ?_) (fun h2 => ?_)
    · refine ev_W.fn rfl rfl ?_
      refine ev_W.fn rfl rfl ?_
      refine ev_W.ret rfl rfl ?_
      rw [if_pos h2] at k
      exact k
    · refine ev_W.fn rfl rfl ?_
      refine ev_W.fn rfl rfl ?_
      refine ev_W.fn rfl rfl ?_
      refine ev_W.ret rfl rfl ?_
      rw [if_neg h2] at k
      exact k
  · rw [if_neg h1] at k
    refine ev_W.fn rfl rfl ?_
    refine ev_W.fn rfl rfl ?_
    refine ev_W.fn rfl rfl ?_
    refine ev_W.fn rfl rfl ?_
    refine ev_W.obj rfl R.o0 rfl ?_
    refine ev_W.fn rfl rfl ?_
    refine ev_W.lk R hc rfl ?_
    refine ev_W.obj rfl (R.o1 hc) rfl ?_
    refine ev_W.br rfl rfl (fun h2 => ?_) (fun h2 => ?_)
    · refine ev_W.fn rfl rfl ?_
      refine ev_W.fn rfl rfl ?_
      refine ev_W.ret rfl rfl ?_
      rw [if_pos h2] at k
      exact k
    · refine ev_W.fn rfl rfl ?_
      refine ev_W.fn rfl rfl ?_
      refine ev_W.fn rfl rfl ?_
      refine ev_W.ret rfl rfl ?_
      rw [if_neg h2] at k
      exact k
theorem sp_H_state0 {n1 n2 : Nat} {G : hb_G} {s : hb_S} {h : ev_H} {x : Int32} (R : hb_R z sz dyn mu G n1 n2 s h) (hx : ¬ (0 ≤ x ∧ x ≤ 2)) (k : Q (some (.int (-1)), h)) : ev_M (mf_H_state z) [.ref sz, .int x] h Q := by
  refine ev_M.go rfl rfl ?_
  refine ev_W.fn rfl rfl ?_
  refine ev_W.cl rfl rfl rfl rfl rfl ?_
  refine sp_isClient ?_
  refine ev_W.brF rfl rfl (fun q => q (zb_n0.mpr (decide_eq_false hx))) ?_
  refine ev_W.fn rfl rfl ?_
  refine ev_W.ret rfl rfl ?_
  exact k
theorem sp_H_session {n1 n2 : Nat} {G : hb_G} {s : hb_S} {h : ev_H} (R : hb_R z sz dyn mu G n1 n2 s h) (hc : c < 3) (k : Q (some (.int (M_ssum s c)), h)) : ev_M (mf_H_session z) [.ref sz, .int (nI c)] h Q := by
  refine ev_M.go rfl rfl ?_
  refine ev_W.fn rfl rfl ?_
  refine ev_W.cl rfl rfl rfl rfl rfl ?_
  refine sp_isClient ?_
  refine ev_W.brF rfl rfl (zb_1.mpr (decide_eq_true (ncl hc))) ?_
  refine ev_W.fn rfl rfl ?_
  refine ev_W.obj rfl R.o0 rfl ?_
  refine ev_W.obj rfl R.o5 rfl ?_
  refine ev_W.fn rfl rfl ?_
  refine ev_W.sk R hc rfl ?_
  refine ev_W.clR rfl rfl rfl rfl rfl (R.o7 hc) ?_
  refine sp_S_summary R hc ?_
  refine ev_W.fn rfl rfl ?_
  refine ev_W.ret rfl rfl ?_
  exact k
theorem sp_H_session0 {n1 n2 : Nat} {G : hb_G} {s : hb_S} {h : ev_H} {x : Int32} (R : hb_R z sz dyn mu G n1 n2 s h) (hx : ¬ (0 ≤ x ∧ x ≤ 2)) (k : Q (some (.int (-1)), h)) : ev_M (mf_H_session z) [.ref sz, .int x] h Q := by
  refine ev_M.go rfl rfl ?_
  refine ev_W.fn rfl rfl ?_
  refine ev_W.cl rfl rfl rfl rfl rfl ?_
  refine sp_isClient ?_
  refine ev_W.brT rfl rfl (zb_n0.mpr (decide_eq_false hx)) ?_
  refine ev_W.fn rfl rfl ?_
  refine ev_W.ret rfl rfl ?_
  exact k
theorem sp_H_lineT {n1 n2 : Nat} {G : hb_G} {s : hb_S} {h : ev_H} (R : hb_R z sz dyn mu G n1 n2 s h) (hc : c < 3) (k : Q (some (.int (nI (sN s (2 * c)).length)), h)) : ev_M (mf_H_line z) [.ref sz, .int (nI c), .int (zb true)] h Q := by
  refine ev_M.go rfl rfl ?_
  refine ev_W.fn rfl rfl ?_
  refine ev_W.cl rfl rfl rfl rfl rfl ?_
  refine sp_isClient ?_
  refine ev_W.brF rfl rfl (zb_1.mpr (decide_eq_true (ncl hc))) ?_
  refine ev_W.fn rfl rfl ?_
  refine ev_W.obj rfl R.o0 rfl ?_
  refine ev_W.fn rfl rfl ?_
  refine ev_W.lk R hc rfl ?_
  refine ev_W.fn rfl rfl ?_
  refine ev_W.clR rfl rfl rfl rfl rfl (R.o1 hc) ?_
  refine sp_L_rowT R hc ?_
  refine ev_W.clR rfl rfl rfl rfl rfl (R.lo (nl_lt (by omega))) ?_
  refine R.nsize (by omega) ?_
  refine ev_W.fn rfl rfl ?_
  refine ev_W.ret rfl rfl ?_
  exact k
theorem sp_H_lineF {n1 n2 : Nat} {G : hb_G} {s : hb_S} {h : ev_H} (R : hb_R z sz dyn mu G n1 n2 s h) (hc : c < 3) (k : Q (some (.int (nI (sN s (2 * c + 1)).length)), h)) : ev_M (mf_H_line z) [.ref sz, .int (nI c), .int (zb false)] h Q := by
  refine ev_M.go rfl rfl ?_
  refine ev_W.fn rfl rfl ?_
  refine ev_W.cl rfl rfl rfl rfl rfl ?_
  refine sp_isClient ?_
  refine ev_W.brF rfl rfl (zb_1.mpr (decide_eq_true (ncl hc))) ?_
  refine ev_W.fn rfl rfl ?_
  refine ev_W.obj rfl R.o0 rfl ?_
  refine ev_W.fn rfl rfl ?_
  refine ev_W.lk R hc rfl ?_
  refine ev_W.fn rfl rfl ?_
  refine ev_W.clR rfl rfl rfl rfl rfl (R.o1 hc) ?_
  refine sp_L_rowF R hc ?_
  refine ev_W.clR rfl rfl rfl rfl rfl (R.lo (nl_lt (by omega))) ?_
  refine R.nsize (by omega) ?_
  refine ev_W.fn rfl rfl ?_
  refine ev_W.ret rfl rfl ?_
  exact k
theorem sp_P_number {G : hb_G} {h : ev_H} {a : Nat} {p : hb_Pk} (hp : pk_at dyn G h a p) (k : Q (some (.long (pk_no p)), h)) : ev_M (mf_P_number z) [.ref a] h Q := by
  obtain ⟨ty, id, va, tx, qu, ag, mr, wi, ke, wv⟩ := p
  unfold pk_no at k
  dsimp only at k
  refine ev_M.go rfl rfl ?_
  refine ev_W.fn rfl rfl ?_
  refine ev_W.obj rfl hp.1 rfl ?_
  refine ev_W.fn rfl rfl ?_
  refine ev_W.fn rfl rfl ?_
  refine ev_W.obj rfl hp.1 rfl ?_
  refine ev_W.fn rfl rfl ?_
  refine ev_W.fn rfl rfl ?_
  refine ev_W.fn rfl rfl ?_
  refine ev_W.obj rfl hp.1 rfl ?_
  refine ev_W.br rfl rfl (fun h1 => ?_) (fun h1 => ?_)
  · rw [if_neg (fun q => by rw [zb_n0.mp h1] at q; cases q)] at k
    refine ev_W.fn rfl rfl ?_
    refine ev_W.fn rfl rfl ?_
    refine ev_W.fn rfl rfl ?_
    refine ev_W.obj rfl hp.1 rfl ?_
    refine ev_W.br rfl rfl (fun h2 => ?_) (fun h2 => ?_)
    · rw [if_neg (fun q => by rw [zb_n0.mp h2] at q; cases q)] at k
      refine ev_W.fn rfl rfl ?_
      refine ev_W.fn rfl rfl ?_
      refine ev_W.fn rfl rfl ?_
      refine ev_W.fn rfl rfl ?_
      refine ev_W.obj rfl hp.1 rfl ?_
      refine ev_W.fn rfl rfl ?_
      refine ev_W.fn rfl rfl ?_
      refine ev_W.fn rfl rfl ?_
      refine ev_W.fn rfl rfl ?_
      refine ev_W.fn rfl rfl ?_
      refine ev_W.obj rfl hp.1 rfl ?_
      refine ev_W.fn rfl rfl ?_
      refine ev_W.fn rfl rfl ?_
      refine ev_W.fn rfl rfl ?_
      refine ev_W.ret rfl rfl ?_
      exact k
    · rw [if_pos (zb_1.mp h2)] at k
      refine ev_W.fn rfl rfl ?_
      refine ev_W.fn rfl rfl ?_
      refine ev_W.fn rfl rfl ?_
      refine ev_W.fn rfl rfl ?_
      refine ev_W.fn rfl rfl ?_
      refine ev_W.obj rfl hp.1 rfl ?_
      refine ev_W.fn rfl rfl ?_
      refine ev_W.fn rfl rfl ?_
      refine ev_W.fn rfl rfl ?_
      refine ev_W.fn rfl rfl ?_
      refine ev_W.fn rfl rfl ?_
      refine ev_W.obj rfl hp.1 rfl ?_
      refine ev_W.fn rfl rfl ?_
      refine ev_W.fn rfl rfl ?_
      refine ev_W.fn rfl rfl ?_
      refine ev_W.ret rfl rfl ?_
      exact k
  · rw [if_pos (zb_1.mp h1)] at k
    refine ev_W.fn rfl rfl ?_
    refine ev_W.fn rfl rfl ?_
    refine ev_W.fn rfl rfl ?_
    refine ev_W.fn rfl rfl ?_
    refine ev_W.obj rfl hp.1 rfl ?_
    refine ev_W.br rfl rfl (fun h2 => ?_) (fun h2 => ?_)
    · rw [if_neg (fun q => by rw [zb_n0.mp h2] at q; cases q)] at k
      refine ev_W.fn rfl rfl ?_
      refine ev_W.fn rfl rfl ?_
      refine ev_W.fn rfl rfl ?_
      refine ev_W.fn rfl rfl ?_
      refine ev_W.obj rfl hp.1 rfl ?_
      refine ev_W.fn rfl rfl ?_
      refine ev_W.fn rfl rfl ?_
      refine ev_W.fn rfl rfl ?_
      refine ev_W.fn rfl rfl ?_
      refine ev_W.fn rfl rfl ?_
      refine ev_W.obj rfl hp.1 rfl ?_
      refine ev_W.fn rfl rfl ?_
      refine ev_W.fn rfl rfl ?_
      refine ev_W.fn rfl rfl ?_
      refine ev_W.ret rfl rfl ?_
      exact k
    · rw [if_pos (zb_1.mp h2)] at k
      refine ev_W.fn rfl rfl ?_
      refine ev_W.fn rfl rfl ?_
      refine ev_W.fn rfl rfl ?_
      refine ev_W.fn rfl rfl ?_
      refine ev_W.fn rfl rfl ?_
      refine ev_W.obj rfl hp.1 rfl ?_
      refine ev_W.fn rfl rfl ?_
      refine ev_W.fn rfl rfl ?_
      refine ev_W.fn rfl rfl ?_
      refine ev_W.fn rfl rfl ?_
      refine ev_W.fn rfl rfl ?_
      refine ev_W.obj rfl hp.1 rfl ?_
      refine ev_W.fn rfl rfl ?_
      refine ev_W.fn rfl rfl ?_
      refine ev_W.fn rfl rfl ?_
      refine ev_W.ret rfl rfl ?_
      exact k
theorem sp_H_packetT {n1 n2 : Nat} {G : hb_G} {s : hb_S} {h : ev_H} {x : Int32} (R : hb_R z sz dyn mu G n1 n2 s h) (hc : c < 3) (k : Q (some (.long (H_pk (sN s (2 * c)) x)), h)) : ev_M (mf_H_packet z) [.ref sz, .int (nI c), .int (zb true), .int x] h Q := by
  have hn := R.nlen (l := 2 * c) (by omega)
  have key : (0 ≤ x ∧ x ≤ nI (sN s (2 * c)).length - 1) ↔ ∃ i p, x = nI i ∧ (sN s (2 * c))[i]? = some p := by
    constructor
    · intro hq
      obtain ⟨i, hi, rfl⟩ := nI_of (Int32.not_lt.mpr hq.1)
      have hle := hq.2
      cases hL : (sN s (2 * c)).length with
      | zero =>
        rw [hL] at hle
        exact absurd hle (by
          have : nI 0 - 1 < nI i := Int32.lt_of_lt_of_le (by decide) (nI_pos' hi)
          exact Int32.not_le.mpr this)
      | succ n =>
        rw [hL, nI_pred] at hle
        have := (nI_leI hi (by omega)).mp hle
        exact ⟨i, _, rfl, List.getElem?_eq_getElem (by omega)⟩
    · rintro ⟨i, p, rfl, hp⟩
      have hil : i < (sN s (2 * c)).length := (List.getElem?_eq_some_iff.mp hp).1
      obtain ⟨n, hL⟩ : ∃ n, (sN s (2 * c)).length = n + 1 := ⟨(sN s (2 * c)).length - 1, by omega⟩
      rw [hL, nI_pred]
      exact ⟨nI_pos' (by omega), nI_le (by omega) (by omega)⟩
  have knone : ¬ (0 ≤ x ∧ x ≤ nI (sN s (2 * c)).length - 1) → H_pk (sN s (2 * c)) x = 0 := by
    intro hq
    unfold H_pk
    split
    · rfl
    · rename_i h0
      obtain ⟨i, hi, rfl⟩ := nI_of h0
      rw [nI_clamp hi]
      cases hp : (sN s (2 * c))[i]? with
      | none => rfl
      | some p => exact absurd (key.mpr ⟨i, p, rfl, hp⟩) hq
  refine ev_M.go rfl rfl ?_
  refine ev_W.fn rfl rfl ?_
  refine ev_W.cl rfl rfl rfl rfl rfl ?_
  refine sp_isClient ?_
  refine ev_W.brF rfl rfl (zb_1.mpr (decide_eq_true (ncl hc))) ?_
  refine ev_W.fn rfl rfl ?_
  refine ev_W.fn rfl rfl ?_
  refine ev_W.fn rfl rfl ?_
  refine ev_W.obj rfl R.o0 rfl ?_
  refine ev_W.fn rfl rfl ?_
  refine ev_W.lk R hc rfl ?_
  refine ev_W.fn rfl rfl ?_
  refine ev_W.clR rfl rfl rfl rfl rfl (R.o1 hc) ?_
  refine sp_L_rowT R hc ?_
  refine ev_W.clR rfl rfl rfl rfl rfl (R.lo (nl_lt (by omega))) ?_
  refine R.nsize (by omega) ?_
  refine ev_W.fn rfl rfl ?_
  refine ev_W.fn rfl rfl ?_
  refine ev_W.cl rfl rfl rfl rfl rfl ?_
  refine sp_isWithin ?_
  refine ev_W.br rfl rfl (fun h1 => ?_) (fun h1 => ?_)
  · have h1 := of_decide_eq_true (zb_1.mp h1)
    obtain ⟨i, p, rfl, hip⟩ := key.mp h1
    have hil : i < (sN s (2 * c)).length := (List.getElem?_eq_some_iff.mp hip).1
    rw [H_pk, if_neg (nI_pos (by omega)), nI_clamp (by omega), hip] at k
    dsimp only at k
    refine ev_W.fn rfl rfl ?_
    refine ev_W.obj rfl R.o0 rfl ?_
    refine ev_W.fn rfl rfl ?_
    refine ev_W.lk R hc rfl ?_
    refine ev_W.fn rfl rfl ?_
    refine ev_W.clR rfl rfl rfl rfl rfl (R.o1 hc) ?_
    refine sp_L_rowT R hc ?_
    refine ev_W.fn rfl rfl ?_
    refine ev_W.clR rfl rfl rfl rfl rfl (R.lo (nl_lt (by omega))) ?_
    refine R.nget (by omega) hip (fun a1 hp1 => ?_)
    refine ev_W.cast rfl hp1.1 ?_
    refine ev_W.clR rfl rfl rfl rfl rfl hp1.1 ?_
    refine sp_P_number hp1 ?_
    refine ev_W.ret rfl rfl ?_
    exact k
  · have h1 := of_decide_eq_false (zb_n0.mp (Decidable.not_not.mp h1))
    rw [knone h1] at k
    refine ev_W.fn rfl rfl ?_
    refine ev_W.ret rfl rfl ?_
    exact k
theorem sp_H_packetF {n1 n2 : Nat} {G : hb_G} {s : hb_S} {h : ev_H} {x : Int32} (R : hb_R z sz dyn mu G n1 n2 s h) (hc : c < 3) (k : Q (some (.long (H_pk (sN s (2 * c + 1)) x)), h)) : ev_M (mf_H_packet z) [.ref sz, .int (nI c), .int (zb false), .int x] h Q := by
  have hn := R.nlen (l := 2 * c + 1) (by omega)
  have key : (0 ≤ x ∧ x ≤ nI (sN s (2 * c + 1)).length - 1) ↔ ∃ i p, x = nI i ∧ (sN s (2 * c + 1))[i]? = some p := by
    constructor
    · intro hq
      obtain ⟨i, hi, rfl⟩ := nI_of (Int32.not_lt.mpr hq.1)
      have hle := hq.2
      cases hL : (sN s (2 * c + 1)).length with
      | zero =>
        rw [hL] at hle
        exact absurd hle (by
          have : nI 0 - 1 < nI i := Int32.lt_of_lt_of_le (by decide) (nI_pos' hi)
          exact Int32.not_le.mpr this)
      | succ n =>
        rw [hL, nI_pred] at hle
        have := (nI_leI hi (by omega)).mp hle
        exact ⟨i, _, rfl, List.getElem?_eq_getElem (by omega)⟩
    · rintro ⟨i, p, rfl, hp⟩
      have hil : i < (sN s (2 * c + 1)).length := (List.getElem?_eq_some_iff.mp hp).1
      obtain ⟨n, hL⟩ : ∃ n, (sN s (2 * c + 1)).length = n + 1 := ⟨(sN s (2 * c + 1)).length - 1, by omega⟩
      rw [hL, nI_pred]
      exact ⟨nI_pos' (by omega), nI_le (by omega) (by omega)⟩
  have knone : ¬ (0 ≤ x ∧ x ≤ nI (sN s (2 * c + 1)).length - 1) → H_pk (sN s (2 * c + 1)) x = 0 := by
    intro hq
    unfold H_pk
    split
    · rfl
    · rename_i h0
      obtain ⟨i, hi, rfl⟩ := nI_of h0
      rw [nI_clamp hi]
      cases hp : (sN s (2 * c + 1))[i]? with
      | none => rfl
      | some p => exact absurd (key.mpr ⟨i, p, rfl, hp⟩) hq
  refine ev_M.go rfl rfl ?_
  refine ev_W.fn rfl rfl ?_
  refine ev_W.cl rfl rfl rfl rfl rfl ?_
  refine sp_isClient ?_
  refine ev_W.brF rfl rfl (zb_1.mpr (decide_eq_true (ncl hc))) ?_
  refine ev_W.fn rfl rfl ?_
  refine ev_W.fn rfl rfl ?_
  refine ev_W.fn rfl rfl ?_
  refine ev_W.obj rfl R.o0 rfl ?_
  refine ev_W.fn rfl rfl ?_
  refine ev_W.lk R hc rfl ?_
  refine ev_W.fn rfl rfl ?_
  refine ev_W.clR rfl rfl rfl rfl rfl (R.o1 hc) ?_
  refine sp_L_rowF R hc ?_
  refine ev_W.clR rfl rfl rfl rfl rfl (R.lo (nl_lt (by omega))) ?_
  refine R.nsize (by omega) ?_
  refine ev_W.fn rfl rfl ?_
  refine ev_W.fn rfl rfl ?_
  refine ev_W.cl rfl rfl rfl rfl rfl ?_
  refine sp_isWithin ?_
  refine ev_W.br rfl rfl (fun h1 => ?_) (fun h1 => ?_)
  · have h1 := of_decide_eq_true (zb_1.mp h1)
    obtain ⟨i, p, rfl, hip⟩ := key.mp h1
    have hil : i < (sN s (2 * c + 1)).length := (List.getElem?_eq_some_iff.mp hip).1
    rw [H_pk, if_neg (nI_pos (by omega)), nI_clamp (by omega), hip] at k
    dsimp only at k
    refine ev_W.fn rfl rfl ?_
    refine ev_W.obj rfl R.o0 rfl ?_
    refine ev_W.fn rfl rfl ?_
    refine ev_W.lk R hc rfl ?_
    refine ev_W.fn rfl rfl ?_
    refine ev_W.clR rfl rfl rfl rfl rfl (R.o1 hc) ?_
    refine sp_L_rowF R hc ?_
    refine ev_W.fn rfl rfl ?_
    refine ev_W.clR rfl rfl rfl rfl rfl (R.lo (nl_lt (by omega))) ?_
    refine R.nget (by omega) hip (fun a1 hp1 => ?_)
    refine ev_W.cast rfl hp1.1 ?_
    refine ev_W.clR rfl rfl rfl rfl rfl hp1.1 ?_
    refine sp_P_number hp1 ?_
    refine ev_W.ret rfl rfl ?_
    exact k
  · have h1 := of_decide_eq_false (zb_n0.mp (Decidable.not_not.mp h1))
    rw [knone h1] at k
    refine ev_W.fn rfl rfl ?_
    refine ev_W.ret rfl rfl ?_
    exact k
theorem sp_H_line0 {n1 n2 : Nat} {G : hb_G} {s : hb_S} {h : ev_H} {b : Bool} {x : Int32} (R : hb_R z sz dyn mu G n1 n2 s h) (hx : ¬ (0 ≤ x ∧ x ≤ 2)) (k : Q (some (.int 0), h)) : ev_M (mf_H_line z) [.ref sz, .int x, .int (zb b)] h Q := by
  refine ev_M.go rfl rfl ?_
  refine ev_W.fn rfl rfl ?_
  refine ev_W.cl rfl rfl rfl rfl rfl ?_
  refine sp_isClient ?_
  refine ev_W.brT rfl rfl (zb_n0.mpr (decide_eq_false hx)) ?_
  refine ev_W.fn rfl rfl ?_
  refine ev_W.ret rfl rfl ?_
  exact k
theorem sp_H_packet0 {n1 n2 : Nat} {G : hb_G} {s : hb_S} {h : ev_H} {b : Bool} {y : Int32} {x : Int32} (R : hb_R z sz dyn mu G n1 n2 s h) (hx : ¬ (0 ≤ x ∧ x ≤ 2)) (k : Q (some (.long 0), h)) : ev_M (mf_H_packet z) [.ref sz, .int x, .int (zb b), .int y] h Q := by
  refine ev_M.go rfl rfl ?_
  refine ev_W.fn rfl rfl ?_
  refine ev_W.cl rfl rfl rfl rfl rfl ?_
  refine sp_isClient ?_
  refine ev_W.brT rfl rfl (zb_n0.mpr (decide_eq_false hx)) ?_
  refine ev_W.fn rfl rfl ?_
  refine ev_W.ret rfl rfl ?_
  exact k
theorem sp_H_inbox {n1 n2 : Nat} {G : hb_G} {s : hb_S} {h : ev_H} {y : Int32} (R : hb_R z sz dyn mu G n1 n2 s h) (hc : c < 3) (k : Q (some (.int (M_in s c y)), h)) : ev_M (mf_H_inbox z) [.ref sz, .int (nI c), .int y] h Q := by
  refine ev_M.go rfl rfl ?_
  refine ev_W.fn rfl rfl ?_
  refine ev_W.cl rfl rfl rfl rfl rfl ?_
  refine sp_isClient ?_
  refine ev_W.brF rfl rfl (zb_1.mpr (decide_eq_true (ncl hc))) ?_
  refine ev_W.fn rfl rfl ?_
  refine ev_W.obj rfl R.o0 rfl ?_
  refine ev_W.fn rfl rfl ?_
  refine ev_W.ck R hc rfl ?_
  refine ev_W.fn rfl rfl ?_
  refine ev_W.clR rfl rfl rfl rfl rfl (R.o3 hc) ?_
  refine sp_C_received R hc ?_
  refine ev_W.fn rfl rfl ?_
  refine ev_W.ret rfl rfl ?_
  exact k
theorem sp_H_inbox0 {n1 n2 : Nat} {G : hb_G} {s : hb_S} {h : ev_H} {y : Int32} {x : Int32} (R : hb_R z sz dyn mu G n1 n2 s h) (hx : ¬ (0 ≤ x ∧ x ≤ 2)) (k : Q (some (.int 0), h)) : ev_M (mf_H_inbox z) [.ref sz, .int x, .int y] h Q := by
  refine ev_M.go rfl rfl ?_
  refine ev_W.fn rfl rfl ?_
  refine ev_W.cl rfl rfl rfl rfl rfl ?_
  refine sp_isClient ?_
  refine ev_W.brT rfl rfl (zb_n0.mpr (decide_eq_false hx)) ?_
  refine ev_W.fn rfl rfl ?_
  refine ev_W.ret rfl rfl ?_
  exact k
theorem sp_H_store {n1 n2 : Nat} {G : hb_G} {s : hb_S} {h : ev_H} (R : hb_R z sz dyn mu G n1 n2 s h) (hc : c < 3) (k : Q (some (.int (M_csum s c)), h)) : ev_M (mf_H_store z) [.ref sz, .int (nI c)] h Q := by
  refine ev_M.go rfl rfl ?_
  refine ev_W.fn rfl rfl ?_
  refine ev_W.cl rfl rfl rfl rfl rfl ?_
  refine sp_isClient ?_
  refine ev_W.brF rfl rfl (zb_1.mpr (decide_eq_true (ncl hc))) ?_
  refine ev_W.fn rfl rfl ?_
  refine ev_W.obj rfl R.o0 rfl ?_
  refine ev_W.fn rfl rfl ?_
  refine ev_W.ck R hc rfl ?_
  refine ev_W.clR rfl rfl rfl rfl rfl (R.o3 hc) ?_
  refine sp_C_summary R hc ?_
  refine ev_W.fn rfl rfl ?_
  refine ev_W.ret rfl rfl ?_
  exact k
theorem sp_H_store0 {n1 n2 : Nat} {G : hb_G} {s : hb_S} {h : ev_H} {x : Int32} (R : hb_R z sz dyn mu G n1 n2 s h) (hx : ¬ (0 ≤ x ∧ x ≤ 2)) (k : Q (some (.int (-1)), h)) : ev_M (mf_H_store z) [.ref sz, .int x] h Q := by
  refine ev_M.go rfl rfl ?_
  refine ev_W.fn rfl rfl ?_
  refine ev_W.cl rfl rfl rfl rfl rfl ?_
  refine sp_isClient ?_
  refine ev_W.brT rfl rfl (zb_n0.mpr (decide_eq_false hx)) ?_
  refine ev_W.fn rfl rfl ?_
  refine ev_W.ret rfl rfl ?_
  exact k
theorem sp_H_retained {n1 n2 : Nat} {G : hb_G} {s : hb_S} {h : ev_H} {t : Int64} (R : hb_R z sz dyn mu G n1 n2 s h) (k : Q (some (.int (M_rv s (tx_read t))), h)) : ev_M (mf_H_retained z) [.ref sz, .long t] h Q := by
  refine ev_M.go rfl rfl ?_
  refine ev_W.fn rfl rfl ?_
  refine ev_W.obj rfl R.o0 rfl ?_
  refine ev_W.fn rfl rfl ?_
  refine ev_W.cl rfl rfl rfl rfl rfl ?_
  refine sp_T_read ?_
  refine ev_W.clR rfl rfl rfl rfl rfl R.o5 ?_
  refine sp_B_retainedValue R ?_
  refine ev_W.ret rfl rfl ?_
  exact k
theorem sp_mt_tail {h : ev_H} {f t F T : Int64} {a b d : Bool} (ka : a = tx_fg F 8 0) (kb : b = tx_tg T 8 0) (kd : d = tc_cov F T) (k : Q (some (.int (zb (a && b && d))), h)) : ev_W (mk_H_matches z) (12, [some (.ref sz), some (.long f), none, some (.long t), none, some (.long F), none, some (.long T), none], [], h) Q := by
  refine ev_W.fn rfl rfl ?_
  refine ev_W.cl rfl rfl rfl rfl rfl ?_
  refine sp_T_isFilter ?_
  refine ev_W.br rfl rfl (fun h1 => ?_) (fun h1 => ?_)
  · refine ev_W.fn rfl rfl ?_
    refine ev_W.zret rfl (Or.inl rfl) ?_
    rw [ka.trans (zb_n0.mp h1)] at k
    simp only [Bool.false_and, Bool.true_and, Bool.and_false] at k
    exact k
  · refine ev_W.fn rfl rfl ?_
    refine ev_W.cl rfl rfl rfl rfl rfl ?_
    refine sp_T_isTopic ?_
    refine ev_W.br rfl rfl (fun h2 => ?_) (fun h2 => ?_)
    · refine ev_W.fn rfl rfl ?_
      refine ev_W.zret rfl (Or.inl rfl) ?_
      rw [ka.trans (zb_1.mp h1), kb.trans (zb_n0.mp h2)] at k
      simp only [Bool.false_and, Bool.true_and, Bool.and_false] at k
      exact k
    · refine ev_W.fn rfl rfl ?_
      refine ev_W.fn rfl rfl ?_
      refine ev_W.cl rfl rfl rfl rfl rfl ?_
      refine sp_T_covers ?_
      refine ev_W.br rfl rfl (fun h3 => ?_) (fun h3 => ?_)
      · refine ev_W.fn rfl rfl ?_
        refine ev_W.zret rfl (Or.inl rfl) ?_
        rw [ka.trans (zb_1.mp h1), kb.trans (zb_1.mp h2), kd.trans (zb_n0.mp h3)] at k
        simp only [Bool.false_and, Bool.true_and, Bool.and_false] at k
        exact k
      · refine ev_W.fn rfl rfl ?_
        refine ev_W.fn rfl rfl ?_
        refine ev_W.zret rfl (Or.inr rfl) ?_
        rw [ka.trans (zb_1.mp h1), kb.trans (zb_1.mp h2), kd.trans (zb_1.mp h3)] at k
        simp only [Bool.false_and, Bool.true_and, Bool.and_false] at k
        exact k
theorem sp_H_matches {h : ev_H} {f t : Int64} (k : Q (some (.int (zb (H_mt f t))), h)) : ev_M (mf_H_matches z) [.ref sz, .long f, .long t] h Q := by
  refine ev_M.go rfl rfl ?_
  refine ev_W.fn rfl rfl ?_
  refine ev_W.cl rfl rfl rfl rfl rfl ?_
  refine sp_T_read ?_
  refine ev_W.fn rfl rfl ?_
  refine ev_W.fn rfl rfl ?_
  refine ev_W.cl rfl rfl rfl rfl rfl ?_
  refine sp_T_read ?_
  refine ev_W.fn rfl rfl ?_
  exact sp_mt_tail rfl rfl rfl k
end H2
