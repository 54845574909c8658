/-! What the reference tells (laid by wip/whole/p99o.py). -/
def hct (x : Int32) : Nat → Nat
  | 0 => 0
  | n + 1 => hct x n + (if hbit x (nI n) = true then 1 else 0)
theorem hct_9 {k : Nat} (hk : k < 512) : bi_cnt (nI k) = nI (hct (nI k) 9) := by
  have : ∀ k, k < 512 → bi_cnt (nI k) = nI (hct (nI k) 9) := by decide +kernel
  exact this k hk
section ZA2
variable {z : Nat × Nat} {m0 : Nat} {s : hb_S} {p : hb_Pk} {t : rf_S} {h : ev_H} {Q : ev_O → Prop} {c l : Nat} {x : Int32}
theorem sp_Z_state (R : zR z m0 s p t h) (hc : c < 3) (k : Q (some (.int (H_st s c)), h)) : ev_M (mf_Z_state z) [.ref m0, .int (nI c)] h Q := by
  unfold H_st at k
  refine ev_M.go rfl rfl ?_
  refine ev_W.fn rfl rfl ?_
  refine ev_W.cl rfl rfl rfl rfl rfl ?_
  refine sp_Z_isClient ?_
  refine ev_W.brF rfl rfl (by rw [nI_cl hc]; decide) ?_
  refine ev_W.fn rfl rfl ?_
  refine ev_W.obj rfl R.ob rfl ?_
  refine ev_W.fn rfl rfl ?_
  refine ev_W.g22 R hc rfl rfl ?_
  refine ev_W.fn rfl rfl ?_
  refine ev_W.obj rfl R.ob rfl ?_
  refine ev_W.fn rfl rfl ?_
  refine ev_W.g35 R hc rfl rfl ?_
  refine ev_W.br rfl rfl (fun g5 => ?_) (fun g5 => ?_)
  · refine ev_W.fn rfl rfl ?_
    refine ev_W.fn rfl rfl ?_
    refine ev_W.fn rfl rfl ?_
    refine ev_W.obj rfl R.ob rfl ?_
    refine ev_W.fn rfl rfl ?_
    refine ev_W.g36 R hc rfl rfl ?_
    refine ev_W.br rfl rfl (fun g1 => ?_) (fun g1 => ?_)
    · refine ev_W.fn rfl rfl ?_
      refine ev_W.fn rfl rfl ?_
      refine ev_W.fn rfl rfl ?_
      refine ev_W.ret rfl rfl ?_
      rw [if_pos g5, if_pos g1] at k
      exact k
    · refine ev_W.fn rfl rfl ?_
      refine ev_W.fn rfl rfl ?_
      refine ev_W.fn rfl rfl ?_
      refine ev_W.fn rfl rfl ?_
      refine ev_W.ret rfl rfl ?_
      rw [if_pos g5, if_neg g1] at k
      exact k
  · refine ev_W.fn rfl rfl ?_
    refine ev_W.fn rfl rfl ?_
    refine ev_W.fn rfl rfl ?_
    refine ev_W.fn rfl rfl ?_
    refine ev_W.obj rfl R.ob rfl ?_
    refine ev_W.fn rfl rfl ?_
    refine ev_W.g36 R hc rfl rfl ?_
    refine ev_W.br rfl rfl (fun g1 => ?_) (fun g1 => ?_)
    · refine ev_W.fn rfl rfl ?_
      refine ev_W.fn rfl rfl ?_
      refine ev_W.fn rfl rfl ?_
      refine ev_W.ret rfl rfl ?_
      rw [if_neg g5, if_pos g1] at k
      exact k
    · refine ev_W.fn rfl rfl ?_
      refine ev_W.fn rfl rfl ?_
      refine ev_W.fn rfl rfl ?_
      refine ev_W.fn rfl rfl ?_
      refine ev_W.ret rfl rfl ?_
      rw [if_neg g5, if_neg g1] at k
      exact k
theorem sp_zhl_30 (R : zR z m0 s p t h) (hc : c < 3) (k : Q (some (.int (nI (hct (sI s 4 c) 9))), h)) : ∀ (n i : Nat), i + n = 9 → ev_W (mk_Z_held z) (4, [some (.ref (m0 + (1 + rf_r 30))), some (.int (nI c)), some (.int (nI (hct (sI s 4 c) i))), some (.int (nI i))], [], h) Q := by
  intro n
  induction n with
  | zero =>
    intro i hi
    have : i = 9 := by omega
    subst this
    refine ev_W.fn rfl rfl ?_
    refine ev_W.fn rfl rfl ?_
    refine ev_W.fn rfl rfl ?_
    refine ev_W.fn rfl rfl ?_
    refine ev_W.ret rfl rfl ?_
    exact k
  | succ n ih =>
    intro i hi
    have nx := ih (i + 1) (by omega)
    rw [← nI_1, hct] at nx
    refine ev_W.fn rfl rfl ?_
    refine ev_W.fn rfl rfl ?_
    refine ev_W.brF rfl rfl (nI_ge (b := 9) (by omega) (by decide)) ?_
    refine ev_W.fn rfl rfl ?_
    refine ev_W.fn rfl rfl ?_
    refine ev_W.fn rfl rfl ?_
    refine ev_W.fn rfl rfl ?_
    refine ev_W.fn rfl rfl ?_
    refine ev_W.fn rfl rfl ?_
    refine ev_W.g30 R hc (show i < 9 by omega) (zma 9 c i) rfl ?_
    refine ev_W.br rfl rfl (fun g1 => ?_) (fun g1 => ?_)
    · refine ev_W.fn rfl rfl ?_
      refine ev_W.fn rfl rfl ?_
      refine ev_W.fn rfl rfl ?_
      refine ev_W.fn rfl rfl ?_
      rw [if_neg (by rw [zb_n0.mp g1]; decide), Nat.add_zero] at nx
      exact nx
    · refine ev_W.fn rfl rfl ?_
      refine ev_W.fn rfl rfl ?_
      refine ev_W.fn rfl rfl ?_
      refine ev_W.fn rfl rfl ?_
      refine ev_W.fn rfl rfl ?_
      refine ev_W.fn rfl rfl ?_
      refine ev_W.fn rfl rfl ?_
      rw [if_pos (zb_1.mp g1), ← nI_1] at nx
      exact nx
theorem sp_Z_held30 (R : zR z m0 s p t h) (hc : c < 3) (hk : ∃ k, k < 512 ∧ sI s 4 c = nI k) (k : Q (some (.int (bi_cnt (sI s 4 c))), h)) : ev_M (mf_Z_held z) [.ref (m0 + (1 + rf_r 30)), .int (nI c)] h Q := by
  obtain ⟨m, hm, em⟩ := hk
  rw [em, hct_9 hm, ← em] at k
  refine ev_M.go rfl rfl ?_
  refine ev_W.fn rfl rfl ?_
  refine ev_W.fn rfl rfl ?_
  refine ev_W.fn rfl rfl ?_
  refine ev_W.fn rfl rfl ?_
  exact sp_zhl_30 R hc k 9 0 rfl
theorem sp_zhl_55 (R : zR z m0 s p t h) (hc : c < 3) (k : Q (some (.int (nI (hct (sI s 13 c) 9))), h)) : ∀ (n i : Nat), i + n = 9 → ev_W (mk_Z_held z) (4, [some (.ref (m0 + (1 + rf_r 55))), some (.int (nI c)), some (.int (nI (hct (sI s 13 c) i))), some (.int (nI i))], [], h) Q := by
  intro n
  induction n with
  | zero =>
    intro i hi
    have : i = 9 := by omega
    subst this
    refine ev_W.fn rfl rfl ?_
    refine ev_W.fn rfl rfl ?_
    refine ev_W.fn rfl rfl ?_
    refine ev_W.fn rfl rfl ?_
    refine ev_W.ret rfl rfl ?_
    exact k
  | succ n ih =>
    intro i hi
    have nx := ih (i + 1) (by omega)
    rw [← nI_1, hct] at nx
    refine ev_W.fn rfl rfl ?_
    refine ev_W.fn rfl rfl ?_
    refine ev_W.brF rfl rfl (nI_ge (b := 9) (by omega) (by decide)) ?_
    refine ev_W.fn rfl rfl ?_
    refine ev_W.fn rfl rfl ?_
    refine ev_W.fn rfl rfl ?_
    refine ev_W.fn rfl rfl ?_
    refine ev_W.fn rfl rfl ?_
    refine ev_W.fn rfl rfl ?_
    refine ev_W.g55 R hc (show i < 9 by omega) (zma 9 c i) rfl ?_
    refine ev_W.br rfl rfl (fun g1 => ?_) (fun g1 => ?_)
    · refine ev_W.fn rfl rfl ?_
      refine ev_W.fn rfl rfl ?_
      refine ev_W.fn rfl rfl ?_
      refine ev_W.fn rfl rfl ?_
      rw [if_neg (by rw [zb_n0.mp g1]; decide), Nat.add_zero] at nx
      exact nx
    · refine ev_W.fn rfl rfl ?_
      refine ev_W.fn rfl rfl ?_
      refine ev_W.fn rfl rfl ?_
      refine ev_W.fn rfl rfl ?_
      refine ev_W.fn rfl rfl ?_
      refine ev_W.fn rfl rfl ?_
      refine ev_W.fn rfl rfl ?_
      rw [if_pos (zb_1.mp g1), ← nI_1] at nx
      exact nx
theorem sp_Z_held55 (R : zR z m0 s p t h) (hc : c < 3) (hk : ∃ k, k < 512 ∧ sI s 13 c = nI k) (k : Q (some (.int (bi_cnt (sI s 13 c))), h)) : ev_M (mf_Z_held z) [.ref (m0 + (1 + rf_r 55)), .int (nI c)] h Q := by
  obtain ⟨m, hm, em⟩ := hk
  rw [em, hct_9 hm, ← em] at k
  refine ev_M.go rfl rfl ?_
  refine ev_W.fn rfl rfl ?_
  refine ev_W.fn rfl rfl ?_
  refine ev_W.fn rfl rfl ?_
  refine ev_W.fn rfl rfl ?_
  exact sp_zhl_55 R hc k 9 0 rfl
theorem sp_Z_session (R : zR z m0 s p t h) (hc : c < 3) (hk : ∃ k, k < 512 ∧ sI s 13 c = nI k) (k : Q (some (.int (M_ssum s c)), h)) : ev_M (mf_Z_session z) [.ref m0, .int (nI c)] h Q := by
  unfold M_ssum at k
  refine ev_M.go rfl rfl ?_
  refine ev_W.fn rfl rfl ?_
  refine ev_W.cl rfl rfl rfl rfl rfl ?_
  refine sp_Z_isClient ?_
  refine ev_W.brF rfl rfl (by rw [nI_cl hc]; decide) ?_
  refine ev_W.fn rfl rfl ?_
  refine ev_W.obj rfl R.ob rfl ?_
  refine ev_W.fn rfl rfl ?_
  refine ev_W.g42 R hc rfl rfl ?_
  refine ev_W.br rfl rfl (fun g1 => ?_) (fun g1 => ?_)
  · refine ev_W.fn rfl rfl ?_
    refine ev_W.ret rfl rfl ?_
    rw [if_pos g1] at k
    exact k
  · rw [if_neg g1] at k
    refine ev_W.fn rfl rfl ?_
    refine ev_W.obj rfl R.ob rfl ?_
    refine ev_W.fn rfl rfl ?_
    refine ev_W.g43 R hc rfl rfl ?_
    refine ev_W.fn rfl rfl ?_
    refine ev_W.fn rfl rfl ?_
    refine ev_W.obj rfl R.ob rfl ?_
    refine ev_W.fn rfl rfl ?_
    refine ev_W.g48 R hc rfl rfl ?_
    refine ev_W.fn rfl rfl ?_
    refine ev_W.fn rfl rfl ?_
    refine ev_W.fn rfl rfl ?_
    refine ev_W.fn rfl rfl ?_
    refine ev_W.obj rfl R.ob rfl ?_
    refine ev_W.fn rfl rfl ?_
    refine ev_W.g47 R hc rfl rfl ?_
    refine ev_W.fn rfl rfl ?_
    refine ev_W.fn rfl rfl ?_
    refine ev_W.fn rfl rfl ?_
    refine ev_W.fn rfl rfl ?_
    refine ev_W.obj rfl R.ob rfl ?_
    refine ev_W.fn rfl rfl ?_
    refine ev_W.cl rfl rfl rfl rfl rfl ?_
    refine sp_Z_held55 R hc hk ?_
    refine ev_W.fn rfl rfl ?_
    refine ev_W.fn rfl rfl ?_
    refine ev_W.fn rfl rfl ?_
    refine ev_W.ret rfl rfl ?_
    exact k
theorem sp_Z_store (R : zR z m0 s p t h) (hc : c < 3) (hS : okS (sP s c)) (hk : ∃ k, k < 512 ∧ sI s 4 c = nI k) (k : Q (some (.int (M_csum s c)), h)) : ev_M (mf_Z_store z) [.ref m0, .int (nI c)] h Q := by
  unfold M_csum at k
  refine ev_M.go rfl rfl ?_
  refine ev_W.fn rfl rfl ?_
  refine ev_W.cl rfl rfl rfl rfl rfl ?_
  refine sp_Z_isClient ?_
  refine ev_W.brF rfl rfl (by rw [nI_cl hc]; decide) ?_
  refine ev_W.fn rfl rfl ?_
  refine ev_W.obj rfl R.ob rfl ?_
  refine ev_W.fn rfl rfl ?_
  refine ev_W.g23 R hc rfl rfl ?_
  refine ev_W.fn rfl rfl ?_
  refine ev_W.fn rfl rfl ?_
  refine ev_W.fn rfl rfl ?_
  refine ev_W.clR rfl rfl rfl rfl rfl R.ob ?_
  refine sp_Z_underWay R hc hS ?_
  refine ev_W.fn rfl rfl ?_
  refine ev_W.fn rfl rfl ?_
  refine ev_W.fn rfl rfl ?_
  refine ev_W.fn rfl rfl ?_
  refine ev_W.obj rfl R.ob rfl ?_
  refine ev_W.fn rfl rfl ?_
  refine ev_W.cl rfl rfl rfl rfl rfl ?_
  refine sp_Z_held30 R hc hk ?_
  refine ev_W.fn rfl rfl ?_
  refine ev_W.fn rfl rfl ?_
  refine ev_W.fn rfl rfl ?_
  refine ev_W.ret rfl rfl ?_
  exact k
theorem sp_Z_lineT (R : zR z m0 s p t h) (hc : c < 3) (k : Q (some (.int (nI (sN s (2 * c)).length)), h)) : ev_M (mf_Z_line z) [.ref m0, .int (nI c), .int (zb true)] h Q := by
  refine ev_M.go rfl rfl ?_
  refine ev_W.fn rfl rfl ?_
  refine ev_W.cl rfl rfl rfl rfl rfl ?_
  refine sp_Z_isClient ?_
  refine ev_W.brF rfl rfl (by rw [nI_cl hc]; decide) ?_
  refine ev_W.fn rfl rfl ?_
  refine ev_W.obj rfl R.ob rfl ?_
  refine ev_W.fn rfl rfl ?_
  refine ev_W.fn rfl rfl ?_
  refine ev_W.fn rfl rfl ?_
  refine ev_W.fn rfl rfl ?_
  refine ev_W.fn rfl rfl ?_
  refine ev_W.fn rfl rfl ?_
  refine ev_W.g0 R (l := 2 * c) (by omega) (zm 2 c) rfl ?_
  refine ev_W.fn rfl rfl ?_
  refine ev_W.ret rfl rfl ?_
  exact k
theorem sp_Z_lineF (R : zR z m0 s p t h) (hc : c < 3) (k : Q (some (.int (nI (sN s (2 * c + 1)).length)), h)) : ev_M (mf_Z_line z) [.ref m0, .int (nI c), .int (zb false)] h Q := by
  refine ev_M.go rfl rfl ?_
  refine ev_W.fn rfl rfl ?_
  refine ev_W.cl rfl rfl rfl rfl rfl ?_
  refine sp_Z_isClient ?_
  refine ev_W.brF rfl rfl (by rw [nI_cl hc]; decide) ?_
  refine ev_W.fn rfl rfl ?_
  refine ev_W.obj rfl R.ob rfl ?_
  refine ev_W.fn rfl rfl ?_
  refine ev_W.fn rfl rfl ?_
  refine ev_W.fn rfl rfl ?_
  refine ev_W.fn rfl rfl ?_
  refine ev_W.fn rfl rfl ?_
  refine ev_W.fn rfl rfl ?_
  refine ev_W.fn rfl rfl ?_
  refine ev_W.g0 R (l := 2 * c + 1) (by omega) (zma1 2 c) rfl ?_
  refine ev_W.fn rfl rfl ?_
  refine ev_W.ret rfl rfl ?_
  exact k
theorem sp_Z_packetT (R : zR z m0 s p t h) (hc : c < 3) (k : Q (some (.long (H_pk (sN s (2 * c)) x)), h)) : ev_M (mf_Z_packet z) [.ref m0, .int (nI c), .int (zb true), .int x] h Q := by
  have h31 := R.2.2.2.1 (2 * c) (by omega)
  have el : (2 * nI c : Int32) = nI (2 * c) := (zm 2 c)
  unfold H_pk at k
  refine ev_M.go rfl rfl ?_
  refine ev_W.fn rfl rfl ?_
  refine ev_W.cl rfl rfl rfl rfl rfl ?_
  refine sp_Z_isClient ?_
  refine ev_W.brF rfl rfl (by rw [nI_cl hc]; decide) ?_
  refine ev_W.fn rfl rfl ?_
  refine ev_W.br rfl rfl (fun g0 => ?_) (fun g0 => ?_)
  · refine ev_W.fn rfl rfl ?_
    refine ev_W.fn rfl rfl ?_
    refine ev_W.fn rfl rfl ?_
    refine ev_W.fn rfl rfl ?_
    refine ev_W.fn rfl rfl ?_
    refine ev_W.fn rfl rfl ?_
    refine ev_W.fn rfl rfl ?_
    refine ev_W.fn rfl rfl ?_
    refine ev_W.fn rfl rfl ?_
    refine ev_W.obj rfl R.ob rfl ?_
    refine ev_W.fn rfl rfl ?_
    refine ev_W.g0 R (l := 2 * c) (by omega) el rfl ?_
    refine ev_W.br rfl rfl (fun g1 => ?_) (fun g1 => ?_)
    · obtain ⟨j, hj, rfl⟩ := nI_of (Int32.not_lt.mpr g0)
      have g1 := (nI_ltI hj (by omega)).mp g1
      obtain ⟨y, hx⟩ : ∃ y, (sN s (2 * c))[j]? = some y := ⟨_, List.getElem?_eq_getElem g1⟩
      have ix : 32 * (2 * nI c) + nI j = nI (32 * (2 * c) + j) := by rw [el]; exact zma 32 _ _
      rw [if_neg (Int32.not_lt.mpr g0), nI_clamp hj, hx] at k
      have k : Q (some (.long (pk_no y)), h) := k
      unfold pk_no at k
      refine ev_W.fn rfl rfl ?_
      refine ev_W.fn rfl rfl ?_
      refine ev_W.fn rfl rfl ?_
      refine ev_W.fn rfl rfl ?_
      refine ev_W.fn rfl rfl ?_
      refine ev_W.fn rfl rfl ?_
      refine ev_W.fn rfl rfl ?_
      refine ev_W.obj rfl R.ob rfl ?_
      refine ev_W.fn rfl rfl ?_
      refine ev_W.g1 R (l := 2 * c) (by omega) hx ix rfl ?_
      refine ev_W.fn rfl rfl ?_
      refine ev_W.fn rfl rfl ?_
      refine ev_W.obj rfl R.ob rfl ?_
      refine ev_W.fn rfl rfl ?_
      refine ev_W.g4 R (l := 2 * c) (by omega) hx ix rfl ?_
      refine ev_W.fn rfl rfl ?_
      refine ev_W.fn rfl rfl ?_
      refine ev_W.fn rfl rfl ?_
      refine ev_W.obj rfl R.ob rfl ?_
      refine ev_W.fn rfl rfl ?_
      refine ev_W.g5 R (l := 2 * c) (by omega) hx ix rfl ?_
      refine ev_W.br rfl rfl (fun g5 => ?_) (fun g5 => ?_)
      · refine ev_W.fn rfl rfl ?_
        refine ev_W.fn rfl rfl ?_
        refine ev_W.fn rfl rfl ?_
        refine ev_W.obj rfl R.ob rfl ?_
        refine ev_W.fn rfl rfl ?_
        refine ev_W.g6 R (l := 2 * c) (by omega) hx ix rfl ?_
        refine ev_W.br rfl rfl (fun g6 => ?_) (fun g6 => ?_)
        · rw [if_neg (by rw [zb_n0.mp g5]; decide), if_neg (by rw [zb_n0.mp g6]; decide)] at k
          refine ev_W.fn rfl rfl ?_
          refine ev_W.fn rfl rfl ?_
          refine ev_W.fn rfl rfl ?_
          refine ev_W.fn rfl rfl ?_
          refine ev_W.obj rfl R.ob rfl ?_
          refine ev_W.fn rfl rfl ?_
          refine ev_W.g2 R (l := 2 * c) (by omega) hx ix rfl ?_
          refine ev_W.fn rfl rfl ?_
          refine ev_W.fn rfl rfl ?_
          refine ev_W.fn rfl rfl ?_
          refine ev_W.fn rfl rfl ?_
          refine ev_W.fn rfl rfl ?_
          refine ev_W.obj rfl R.ob rfl ?_
          refine ev_W.fn rfl rfl ?_
          refine ev_W.g3 R (l := 2 * c) (by omega) hx ix rfl ?_
          refine ev_W.fn rfl rfl ?_
          refine ev_W.fn rfl rfl ?_
          refine ev_W.fn rfl rfl ?_
          refine ev_W.ret rfl rfl ?_
          exact k
        · rw [if_neg (by rw [zb_n0.mp g5]; decide), if_pos (zb_1.mp g6)] at k
          refine ev_W.fn rfl rfl ?_
          refine ev_W.fn rfl rfl ?_
          refine ev_W.fn rfl rfl ?_
          refine ev_W.fn rfl rfl ?_
          refine ev_W.fn rfl rfl ?_
          refine ev_W.obj rfl R.ob rfl ?_
          refine ev_W.fn rfl rfl ?_
          refine ev_W.g2 R (l := 2 * c) (by omega) hx ix rfl ?_
          refine ev_W.fn rfl rfl ?_
          refine ev_W.fn rfl rfl ?_
          refine ev_W.fn rfl rfl ?_
          refine ev_W.fn rfl rfl ?_
          refine ev_W.fn rfl rfl ?_
          refine ev_W.obj rfl R.ob rfl ?_
          refine ev_W.fn rfl rfl ?_
          refine ev_W.g3 R (l := 2 * c) (by omega) hx ix rfl ?_
          refine ev_W.fn rfl rfl ?_
          refine ev_W.fn rfl rfl ?_
          refine ev_W.fn rfl rfl ?_
          refine ev_W.ret rfl rfl ?_
          exact k
      · refine ev_W.fn rfl rfl ?_
        refine ev_W.fn rfl rfl ?_
        refine ev_W.fn rfl rfl ?_
        refine ev_W.fn rfl rfl ?_
        refine ev_W.obj rfl R.ob rfl ?_
        refine ev_W.fn rfl rfl ?_
        refine ev_W.g6 R (l := 2 * c) (by omega) hx ix rfl ?_
        refine ev_W.br rfl rfl (fun g6 => ?_) (fun g6 => ?_)
        · rw [if_pos (zb_1.mp g5), if_neg (by rw [zb_n0.mp g6]; decide)] at k
          refine ev_W.fn rfl rfl ?_
          refine ev_W.fn rfl rfl ?_
          refine ev_W.fn rfl rfl ?_
          refine ev_W.fn rfl rfl ?_
          refine ev_W.obj rfl R.ob rfl ?_
          refine ev_W.fn rfl rfl ?_
          refine ev_W.g2 R (l := 2 * c) (by omega) hx ix rfl ?_
          refine ev_W.fn rfl rfl ?_
          refine ev_W.fn rfl rfl ?_
          refine ev_W.fn rfl rfl ?_
          refine ev_W.fn rfl rfl ?_
          refine ev_W.fn rfl rfl ?_
          refine ev_W.obj rfl R.ob rfl ?_
          refine ev_W.fn rfl rfl ?_
          refine ev_W.g3 R (l := 2 * c) (by omega) hx ix rfl ?_
          refine ev_W.fn rfl rfl ?_
          refine ev_W.fn rfl rfl ?_
          refine ev_W.fn rfl rfl ?_
          refine ev_W.ret rfl rfl ?_
          exact k
        · rw [if_pos (zb_1.mp g5), if_pos (zb_1.mp g6)] at k
          refine ev_W.fn rfl rfl ?_
          refine ev_W.fn rfl rfl ?_
          refine ev_W.fn rfl rfl ?_
          refine ev_W.fn rfl rfl ?_
          refine ev_W.fn rfl rfl ?_
          refine ev_W.obj rfl R.ob rfl ?_
          refine ev_W.fn rfl rfl ?_
          refine ev_W.g2 R (l := 2 * c) (by omega) hx ix rfl ?_
          refine ev_W.fn rfl rfl ?_
          refine ev_W.fn rfl rfl ?_
          refine ev_W.fn rfl rfl ?_
          refine ev_W.fn rfl rfl ?_
          refine ev_W.fn rfl rfl ?_
          refine ev_W.obj rfl R.ob rfl ?_
          refine ev_W.fn rfl rfl ?_
          refine ev_W.g3 R (l := 2 * c) (by omega) hx ix rfl ?_
          refine ev_W.fn rfl rfl ?_
          refine ev_W.fn rfl rfl ?_
          refine ev_W.fn rfl rfl ?_
          refine ev_W.ret rfl rfl ?_
          exact k
    · refine ev_W.fn rfl rfl ?_
      refine ev_W.ret rfl rfl ?_
      obtain ⟨j, hj, rfl⟩ := nI_of (Int32.not_lt.mpr g0)
      rw [if_neg (Int32.not_lt.mpr g0), nI_clamp hj, List.getElem?_eq_none (Nat.le_of_not_lt (fun w => g1 ((nI_ltI hj (by omega)).mpr w)))] at k
      exact k
  · refine ev_W.fn rfl rfl ?_
    refine ev_W.ret rfl rfl ?_
    rw [if_pos (Int32.not_le.mp g0)] at k
    exact k
theorem sp_Z_packetF (R : zR z m0 s p t h) (hc : c < 3) (k : Q (some (.long (H_pk (sN s (2 * c + 1)) x)), h)) : ev_M (mf_Z_packet z) [.ref m0, .int (nI c), .int (zb false), .int x] h Q := by
  have h31 := R.2.2.2.1 (2 * c + 1) (by omega)
  have el : (2 * nI c + 1 : Int32) = nI (2 * c + 1) := (zma1 2 c)
  unfold H_pk at k
  refine ev_M.go rfl rfl ?_
  refine ev_W.fn rfl rfl ?_
  refine ev_W.cl rfl rfl rfl rfl rfl ?_
  refine sp_Z_isClient ?_
  refine ev_W.brF rfl rfl (by rw [nI_cl hc]; decide) ?_
  refine ev_W.fn rfl rfl ?_
  refine ev_W.br rfl rfl (fun g0 => ?_) (fun g0 => ?_)
  · refine ev_W.fn rfl rfl ?_
    refine ev_W.fn rfl rfl ?_
    refine ev_W.fn rfl rfl ?_
    refine ev_W.fn rfl rfl ?_
    refine ev_W.fn rfl rfl ?_
    refine ev_W.fn rfl rfl ?_
    refine ev_W.fn rfl rfl ?_
    refine ev_W.fn rfl rfl ?_
    refine ev_W.fn rfl rfl ?_
    refine ev_W.fn rfl rfl ?_
    refine ev_W.obj rfl R.ob rfl ?_
    refine ev_W.fn rfl rfl ?_
    refine ev_W.g0 R (l := 2 * c + 1) (by omega) el rfl ?_
    refine ev_W.br rfl rfl (fun g1 => ?_) (fun g1 => ?_)
    · obtain ⟨j, hj, rfl⟩ := nI_of (Int32.not_lt.mpr g0)
      have g1 := (nI_ltI hj (by omega)).mp g1
      obtain ⟨y, hx⟩ : ∃ y, (sN s (2 * c + 1))[j]? = some y := ⟨_, List.getElem?_eq_getElem g1⟩
      have ix : 32 * (2 * nI c + 1) + nI j = nI (32 * (2 * c + 1) + j) := by rw [el]; exact zma 32 _ _
      rw [if_neg (Int32.not_lt.mpr g0), nI_clamp hj, hx] at k
      have k : Q (some (.long (pk_no y)), h) := k
      unfold pk_no at k
      refine ev_W.fn rfl rfl ?_
      refine ev_W.fn rfl rfl ?_
      refine ev_W.fn rfl rfl ?_
      refine ev_W.fn rfl rfl ?_
      refine ev_W.fn rfl rfl ?_
      refine ev_W.fn rfl rfl ?_
      refine ev_W.fn rfl rfl ?_
      refine ev_W.obj rfl R.ob rfl ?_
      refine ev_W.fn rfl rfl ?_
      refine ev_W.g1 R (l := 2 * c + 1) (by omega) hx ix rfl ?_
      refine ev_W.fn rfl rfl ?_
      refine ev_W.fn rfl rfl ?_
      refine ev_W.obj rfl R.ob rfl ?_
      refine ev_W.fn rfl rfl ?_
      refine ev_W.g4 R (l := 2 * c + 1) (by omega) hx ix rfl ?_
      refine ev_W.fn rfl rfl ?_
      refine ev_W.fn rfl rfl ?_
      refine ev_W.fn rfl rfl ?_
      refine ev_W.obj rfl R.ob rfl ?_
      refine ev_W.fn rfl rfl ?_
      refine ev_W.g5 R (l := 2 * c + 1) (by omega) hx ix rfl ?_
      refine ev_W.br rfl rfl (fun g5 => ?_) (fun g5 => ?_)
      · refine ev_W.fn rfl rfl ?_
        refine ev_W.fn rfl rfl ?_
        refine ev_W.fn rfl rfl ?_
        refine ev_W.obj rfl R.ob rfl ?_
        refine ev_W.fn rfl rfl ?_
        refine ev_W.g6 R (l := 2 * c + 1) (by omega) hx ix rfl ?_
        refine ev_W.br rfl rfl (fun g6 => ?_) (fun g6 => ?_)
        · rw [if_neg (by rw [zb_n0.mp g5]; decide), if_neg (by rw [zb_n0.mp g6]; decide)] at k
          refine ev_W.fn rfl rfl ?_
          refine ev_W.fn rfl rfl ?_
          refine ev_W.fn rfl rfl ?_
          refine ev_W.fn rfl rfl ?_
          refine ev_W.obj rfl R.ob rfl ?_
          refine ev_W.fn rfl rfl ?_
          refine ev_W.g2 R (l := 2 * c + 1) (by omega) hx ix rfl ?_
          refine ev_W.fn rfl rfl ?_
          refine ev_W.fn rfl rfl ?_
          refine ev_W.fn rfl rfl ?_
          refine ev_W.fn rfl rfl ?_
          refine ev_W.fn rfl rfl ?_
          refine ev_W.obj rfl R.ob rfl ?_
          refine ev_W.fn rfl rfl ?_
          refine ev_W.g3 R (l := 2 * c + 1) (by omega) hx ix rfl ?_
          refine ev_W.fn rfl rfl ?_
          refine ev_W.fn rfl rfl ?_
          refine ev_W.fn rfl rfl ?_
          refine ev_W.ret rfl rfl ?_
          exact k
        · rw [if_neg (by rw [zb_n0.mp g5]; decide), if_pos (zb_1.mp g6)] at k
          refine ev_W.fn rfl rfl ?_
          refine ev_W.fn rfl rfl ?_
          refine ev_W.fn rfl rfl ?_
          refine ev_W.fn rfl rfl ?_
          refine ev_W.fn rfl rfl ?_
          refine ev_W.obj rfl R.ob rfl ?_
          refine ev_W.fn rfl rfl ?_
          refine ev_W.g2 R (l := 2 * c + 1) (by omega) hx ix rfl ?_
          refine ev_W.fn rfl rfl ?_
          refine ev_W.fn rfl rfl ?_
          refine ev_W.fn rfl rfl ?_
          refine ev_W.fn rfl rfl ?_
          refine ev_W.fn rfl rfl ?_
          refine ev_W.obj rfl R.ob rfl ?_
          refine ev_W.fn rfl rfl ?_
          refine ev_W.g3 R (l := 2 * c + 1) (by omega) hx ix rfl ?_
          refine ev_W.fn rfl rfl ?_
          refine ev_W.fn rfl rfl ?_
          refine ev_W.fn rfl rfl ?_
          refine ev_W.ret rfl rfl ?_
          exact k
      · refine ev_W.fn rfl rfl ?_
        refine ev_W.fn rfl rfl ?_
        refine ev_W.fn rfl rfl ?_
        refine ev_W.fn rfl rfl ?_
        refine ev_W.obj rfl R.ob rfl ?_
        refine ev_W.fn rfl rfl ?_
        refine ev_W.g6 R (l := 2 * c + 1) (by omega) hx ix rfl ?_
        refine ev_W.br rfl rfl (fun g6 => ?_) (fun g6 => ?_)
        · rw [if_pos (zb_1.mp g5), if_neg (by rw [zb_n0.mp g6]; decide)] at k
          refine ev_W.fn rfl rfl ?_
          refine ev_W.fn rfl rfl ?_
          refine ev_W.fn rfl rfl ?_
          refine ev_W.fn rfl rfl ?_
          refine ev_W.obj rfl R.ob rfl ?_
          refine ev_W.fn rfl rfl ?_
          refine ev_W.g2 R (l := 2 * c + 1) (by omega) hx ix rfl ?_
          refine ev_W.fn rfl rfl ?_
          refine ev_W.fn rfl rfl ?_
          refine ev_W.fn rfl rfl ?_
          refine ev_W.fn rfl rfl ?_
          refine ev_W.fn rfl rfl ?_
          refine ev_W.obj rfl R.ob rfl ?_
          refine ev_W.fn rfl rfl ?_
          refine ev_W.g3 R (l := 2 * c + 1) (by omega) hx ix rfl ?_
          refine ev_W.fn rfl rfl ?_
          refine ev_W.fn rfl rfl ?_
          refine ev_W.fn rfl rfl ?_
          refine ev_W.ret rfl rfl ?_
          exact k
        · rw [if_pos (zb_1.mp g5), if_pos (zb_1.mp g6)] at k
          refine ev_W.fn rfl rfl ?_
          refine ev_W.fn rfl rfl ?_
          refine ev_W.fn rfl rfl ?_
          refine ev_W.fn rfl rfl ?_
          refine ev_W.fn rfl rfl ?_
          refine ev_W.obj rfl R.ob rfl ?_
          refine ev_W.fn rfl rfl ?_
          refine ev_W.g2 R (l := 2 * c + 1) (by omega) hx ix rfl ?_
          refine ev_W.fn rfl rfl ?_
          refine ev_W.fn rfl rfl ?_
          refine ev_W.fn rfl rfl ?_
          refine ev_W.fn rfl rfl ?_
          refine ev_W.fn rfl rfl ?_
          refine ev_W.obj rfl R.ob rfl ?_
          refine ev_W.fn rfl rfl ?_
          refine ev_W.g3 R (l := 2 * c + 1) (by omega) hx ix rfl ?_
          refine ev_W.fn rfl rfl ?_
          refine ev_W.fn rfl rfl ?_
          refine ev_W.fn rfl rfl ?_
          refine ev_W.ret rfl rfl ?_
          exact k
    · refine ev_W.fn rfl rfl ?_
      refine ev_W.ret rfl rfl ?_
      obtain ⟨j, hj, rfl⟩ := nI_of (Int32.not_lt.mpr g0)
      rw [if_neg (Int32.not_lt.mpr g0), nI_clamp hj, List.getElem?_eq_none (Nat.le_of_not_lt (fun w => g1 ((nI_ltI hj (by omega)).mpr w)))] at k
      exact k
  · refine ev_W.fn rfl rfl ?_
    refine ev_W.ret rfl rfl ?_
    rw [if_pos (Int32.not_le.mp g0)] at k
    exact k
theorem sp_Z_inbox {n : Nat} (R : zR z m0 s p t h) (hc : c < 3) (hn : sI s 2 c = nI n) (h31 : n < 2 ^ 31) (k : Q (some (.int (M_in s c x)), h)) : ev_M (mf_Z_inbox z) [.ref m0, .int (nI c), .int x] h Q := by
  unfold M_in at k
  refine ev_M.go rfl rfl ?_
  refine ev_W.fn rfl rfl ?_
  refine ev_W.cl rfl rfl rfl rfl rfl ?_
  refine sp_Z_isClient ?_
  refine ev_W.brF rfl rfl (by rw [nI_cl hc]; decide) ?_
  refine ev_W.fn rfl rfl ?_
  refine ev_W.fn rfl rfl ?_
  refine ev_W.br rfl rfl (fun g0 => ?_) (fun g0 => ?_)
  · refine ev_W.fn rfl rfl ?_
    refine ev_W.fn rfl rfl ?_
    refine ev_W.br rfl rfl (fun g1 => ?_) (fun g1 => ?_)
    · rw [if_neg g1] at k
      have gp : 0 ≤ x := by
        have a := Int32.le_iff_toInt_le.mp g0
        rw [Int32.le_iff_toInt_le]
        have m1 : (-1 : Int32).toInt = -1 := rfl
        have z1 : (0 : Int32).toInt = 0 := rfl
        have ne : ¬ x.toInt = (-1 : Int32).toInt := fun w => g1 (Int32.toInt_inj.mp w)
        omega
      refine ev_W.fn rfl rfl ?_
      refine ev_W.fn rfl rfl ?_
      refine ev_W.obj rfl R.ob rfl ?_
      refine ev_W.fn rfl rfl ?_
      refine ev_W.g31 R hc rfl rfl ?_
      refine ev_W.br rfl rfl (fun g2 => ?_) (fun g2 => ?_)
      · refine ev_W.fn rfl rfl ?_
        refine ev_W.ret rfl rfl ?_
        rw [if_neg (fun w => Int32.not_le.mpr w.2 g2)] at k
        exact k
      · refine ev_W.fn rfl rfl ?_
        refine ev_W.fn rfl rfl ?_
        refine ev_W.br rfl rfl (fun g3 => ?_) (fun g3 => ?_)
        · refine ev_W.fn rfl rfl ?_
          refine ev_W.ret rfl rfl ?_
          rw [if_neg (fun w => by have a := Int32.le_iff_toInt_le.mp g3; have b := Int32.le_iff_toInt_le.mp w.1.2; have c1 : (100 : Int32).toInt = 100 := rfl; have c2 : (99 : Int32).toInt = 99 := rfl; omega)] at k
          exact k
        · obtain ⟨j, hj, rfl⟩ := nI_of (Int32.not_lt.mpr gp)
          have j100 : j < 100 := Nat.lt_of_not_le (fun w => g3 (nI_le (a := 100) w hj))
          rw [if_pos ⟨⟨gp, nI_le (b := 99) (by omega) (by decide)⟩, Int32.not_le.mp g2⟩, nI_clamp hj] at k
          refine ev_W.fn rfl rfl ?_
          refine ev_W.obj rfl R.ob rfl ?_
          refine ev_W.fn rfl rfl ?_
          refine ev_W.fn rfl rfl ?_
          refine ev_W.fn rfl rfl ?_
          refine ev_W.fn rfl rfl ?_
          refine ev_W.fn rfl rfl ?_
          refine ev_W.g32 R (j := j) hc j100 (zma 100 c j) rfl ?_
          refine ev_W.fn rfl rfl ?_
          refine ev_W.ret rfl rfl ?_
          exact k
    · refine ev_W.fn rfl rfl ?_
      refine ev_W.obj rfl R.ob rfl ?_
      refine ev_W.fn rfl rfl ?_
      refine ev_W.g31 R hc rfl rfl ?_
      refine ev_W.fn rfl rfl ?_
      refine ev_W.ret rfl rfl ?_
      rw [if_pos (Decidable.not_not.mp g1)] at k
      exact k
  · refine ev_W.fn rfl rfl ?_
    refine ev_W.ret rfl rfl ?_
    have n1 : ¬ x = -1 := fun w => g0 (by rw [w]; decide)
    have n2 : ¬ 0 ≤ x := fun w => g0 (Int32.le_trans (by decide) w)
    rw [if_neg n1, if_neg (fun w => n2 w.1.1)] at k
    exact k
theorem sp_Z_retained {T : Int64} (R : zR z m0 s p t h) (hr : RI s) (k : Q (some (.int (M_rv s (tx_read T))), h)) : ev_M (mf_Z_retained z) [.ref m0, .long T] h Q := by
  have h4 := hr.2
  have epl := pl_read T
  have hrr := read_read T
  unfold M_rv at k
  refine ev_M.go rfl rfl ?_
  generalize tx_read T = G at k epl hrr
  refine ev_W.fn rfl rfl ?_
  refine ev_W.cl rfl rfl rfl rfl rfl ?_
  refine sp_Z_plain ?_
  refine ev_W.fn rfl rfl ?_
  refine ev_W.fn rfl rfl ?_
  refine ev_W.fn rfl rfl ?_
  refine ev_W.clR rfl rfl rfl rfl rfl R.ob ?_
  rw [← epl]
  refine sp_Z_keptPlace R hr hrr ?_
  generalize hix : ix_of (fun y => decide (y.1 = G)) (sM s 3) 0 = w at k
  cases w with
  | none =>
    refine ev_W.fn rfl rfl ?_
    refine ev_W.fn rfl rfl ?_
    refine ev_W.fn rfl rfl ?_
    refine ev_W.fn rfl rfl ?_
    refine ev_W.fn rfl rfl ?_
    refine ev_W.ret rfl rfl ?_
    exact k
  | some j =>
    obtain ⟨y, hx, _⟩ := ix_0 hix
    have hjl := (List.getElem?_eq_some_iff.mp hx).1
    have k : Q (some (.int (match (sM s 3)[j]? with
      | none => 0
      | some m => m.2.1)), h) := k
    rw [hx] at k
    refine ev_W.fn rfl rfl ?_
    refine ev_W.fn rfl rfl ?_
    refine ev_W.brT rfl rfl (nI_pos' (by omega)) ?_
    refine ev_W.fn rfl rfl ?_
    refine ev_W.obj rfl R.ob rfl ?_
    refine ev_W.fn rfl rfl ?_
    refine ev_W.g60 R hx rfl rfl ?_
    refine ev_W.ret rfl rfl ?_
    exact k
theorem sp_Z_matches {F T : Int64} (R : zR z m0 s p t h) (k : ∀ t' h', zR z m0 s p t' h' → rf_E m0 h h' → Q (some (.int (zb (H_mt F T))), h')) : ev_M (mf_Z_matches z) [.ref m0, .long F, .long T] h Q := by
  have eH : H_mt F T = (tx_fg (tx_read F) 8 0 && tx_tg (tx_read T) 8 0 && tc_cov (tx_read F) (tx_read T)) := rfl
  have e1 := bs_read F
  have e2 := bs_read T
  have p1 := bs_pl (tx_read F)
  have p2 := bs_pl (tx_read T)
  have r1 := read_read F
  have r2 := read_read T
  rw [eH] at k
  clear eH
  refine ev_M.go rfl rfl ?_
  skip
  refine ev_W.fn rfl rfl ?_
  refine ev_W.fn rfl rfl ?_
  refine ev_W.clR rfl rfl rfl rfl rfl R.ob ?_
  refine sp_Z_isFilterR R (fun t1 u1 R1 E1 => ?_)
  refine ev_W.br rfl rfl (fun g1 => ?_) (fun g1 => ?_)
  · refine ev_W.fn rfl rfl ?_
    refine ev_W.zret rfl (Or.inl rfl) ?_
    rw [zb_n0.mp g1, Bool.false_and, Bool.false_and] at k
    exact k _ _ R1 E1
  · have g1 := zb_1.mp g1
    rw [g1, Bool.true_and] at k
    refine ev_W.fn rfl rfl ?_
    refine ev_W.fn rfl rfl ?_
    refine ev_W.clR rfl rfl rfl rfl rfl R1.ob ?_
    refine sp_Z_isTopicR R1 (fun t2 u2 R2 E2 => ?_)
    refine ev_W.br rfl rfl (fun g2 => ?_) (fun g2 => ?_)
    · refine ev_W.fn rfl rfl ?_
      refine ev_W.zret rfl (Or.inl rfl) ?_
      rw [zb_n0.mp g2, Bool.false_and] at k
      exact k _ _ R2 (E1.tr E2)
    · have g2 := zb_1.mp g2
      rw [g2, Bool.true_and] at k
      have hf : ftr (tx_read F) := ⟨r1, g1⟩
      have ht : tpc (tx_read T) := ⟨r2, g2⟩
      have ec := fit_cov hf ht
      have l1 := ftr_len hf
      have l2 := tpc_len ht
      rw [p1, e1] at l1
      rw [p2, e2] at l2
      rw [p1, p2, e1, e2] at ec
      rw [← ec] at k
      clear ec
      refine ev_W.fn rfl rfl ?_
      refine ev_W.fn rfl rfl ?_
      refine ev_W.fn rfl rfl ?_
      refine ev_W.clR rfl rfl rfl rfl rfl R2.ob ?_
      refine sp_Z_fits R2.1 l1 l2 (fun t9 u9 P9 F9 S9 => ?_)
      have R9 : zR z m0 s p t9 u9 := ⟨P9, R2.2.1.sc S9, R2.2.2.1.sc S9, R2.2.2.2⟩
      refine ev_W.br rfl rfl (fun g3 => ?_) (fun g3 => ?_)
      · refine ev_W.fn rfl rfl ?_
        refine ev_W.zret rfl (Or.inl rfl) ?_
        rw [zb_n0.mp g3] at k
        exact k _ _ R9 (rf_E.tr (E1.tr E2) F9)
      · refine ev_W.fn rfl rfl ?_
        refine ev_W.fn rfl rfl ?_
        refine ev_W.zret rfl (Or.inr rfl) ?_
        rw [zb_1.mp g3] at k
        exact k _ _ R9 (rf_E.tr (E1.tr E2) F9)
end ZA2
