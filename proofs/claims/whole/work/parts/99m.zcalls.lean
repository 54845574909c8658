/-! The reference's calls of a client (laid by wip/whole/p99m.py). -/
section ZY1
variable {z : Nat × Nat} {m0 : Nat} {s : hb_S} {p : hb_Pk} {t : rf_S} {h : ev_H} {Q : ev_O → Prop} {c l : Nat} {x : Int32}
theorem sp_Z_isTopicR {T : Int64} (R : zR z m0 s p t h) (k : ∀ t' h', zR z m0 (s) p t' h' → rf_E m0 h h' → Q (some (.int (zb (tx_tg (tx_read T) 8 0))), h')) : ev_M (mf_Z_isTopic z) [.ref m0, .long T] h Q := by
  rw [← zt_eq] at k
  exact sp_Z_isTopic R.1 (fun t' h' P E S => k t' h' ⟨P, R.2.1.sc S, R.2.2.1.sc S, R.2.2.2⟩ E)
theorem sp_Z_isFilterR {T : Int64} (R : zR z m0 s p t h) (k : ∀ t' h', zR z m0 (s) p t' h' → rf_E m0 h h' → Q (some (.int (zb (tx_fg (tx_read T) 8 0))), h')) : ev_M (mf_Z_isFilter z) [.ref m0, .long T] h Q := by
  rw [← zf_eq_] at k
  exact sp_Z_isFilter R.1 (fun t' h' P E S => k t' h' ⟨P, R.2.1.sc S, R.2.2.1.sc S, R.2.2.2⟩ E)
theorem sp_Z_speaks (R : zR z m0 s p t h) (hc : c < 3) (k : Q (some (.int (zb (cs s c))), h)) : ev_M (mf_Z_speaks z) [.ref m0, .int (nI c)] h Q := by
  have h31 := R.2.2.2.1 (2 * c) (by omega)
  unfold cs at k
  refine ev_M.go rfl rfl ?_
  refine ev_W.fn rfl rfl ?_
  refine ev_W.cl rfl rfl rfl rfl rfl ?_
  refine sp_Z_isClient ?_
  refine ev_W.brF rfl rfl (by rw [nI_cl hc]; decide) ?_
  refine ev_W.fn rfl rfl ?_
  refine ev_W.obj rfl R.ob rfl ?_
  refine ev_W.fn rfl rfl ?_
  refine ev_W.g22 R hc rfl rfl ?_
  refine ev_W.fn rfl rfl ?_
  refine ev_W.br rfl rfl (fun g1 => ?_) (fun g1 => ?_)
  · refine ev_W.fn rfl rfl ?_
    refine ev_W.zret rfl (Or.inl rfl) ?_
    rw [decide_eq_false (fun q => g1 q.1)] at k
    exact k
  · refine ev_W.fn rfl rfl ?_
    refine ev_W.obj rfl R.ob rfl ?_
    refine ev_W.fn rfl rfl ?_
    refine ev_W.fn rfl rfl ?_
    refine ev_W.fn rfl rfl ?_
    refine ev_W.g0 R (l := 2 * c) (by omega) (zm 2 c) rfl ?_
    refine ev_W.fn rfl rfl ?_
    refine ev_W.br rfl rfl (fun g2 => ?_) (fun g2 => ?_)
    · refine ev_W.fn rfl rfl ?_
      refine ev_W.zret rfl (Or.inl rfl) ?_
      rw [decide_eq_false (fun q => nI_ge (b := 12) q.2 (by decide) g2)] at k
      exact k
    · refine ev_W.fn rfl rfl ?_
      refine ev_W.fn rfl rfl ?_
      refine ev_W.zret rfl (Or.inr rfl) ?_
      rw [decide_eq_true ⟨Decidable.not_not.mp g1, Nat.lt_of_not_le (fun w => g2 (nI_le (a := 12) w (by omega)))⟩] at k
      exact k
theorem sp_Z_speaks0 (R : zR z m0 s p t h) (hx : ¬ (0 ≤ x ∧ x ≤ 2)) (k : Q (some (.int 0), h)) : ev_M (mf_Z_speaks z) [.ref m0, .int x] h Q := by
  refine ev_M.go rfl rfl ?_
  refine ev_W.fn rfl rfl ?_
  refine ev_W.cl rfl rfl rfl rfl rfl ?_
  refine sp_Z_isClient ?_
  refine ev_W.brT rfl rfl (by rw [decide_eq_false hx]; rfl) ?_
  refine ev_W.fn rfl rfl ?_
  refine ev_W.zret rfl (Or.inl rfl) ?_
  exact k
theorem sp_Z_will0 {T : Int64} {v : Int32} (R : zR z m0 s p t h) (hx : ¬ (0 ≤ x ∧ x ≤ 2)) (k : Q (some (.int 0), h)) : ev_M (mf_Z_will z) [.ref m0, .int x, .long T, .int v] h Q := by
  refine ev_M.go rfl rfl ?_
  refine ev_W.fn rfl rfl ?_
  refine ev_W.cl rfl rfl rfl rfl rfl ?_
  refine sp_Z_isClient ?_
  refine ev_W.brT rfl rfl (by rw [decide_eq_false hx]; rfl) ?_
  refine ev_W.fn rfl rfl ?_
  refine ev_W.zret rfl (Or.inl rfl) ?_
  exact k
theorem sp_Z_con0 {a b d e : Int32} (R : zR z m0 s p t h) (hx : ¬ (0 ≤ x ∧ x ≤ 2)) (k : Q (some (.int 0), h)) : ev_M (mf_Z_connect z) [.ref m0, .int x, .int a, .int b, .int d, .int e] h Q := by
  refine ev_M.go rfl rfl ?_
  refine ev_W.fn rfl rfl ?_
  refine ev_W.cl rfl rfl rfl rfl rfl ?_
  refine sp_Z_isClient ?_
  refine ev_W.brT rfl rfl (by rw [decide_eq_false hx]; rfl) ?_
  refine ev_W.fn rfl rfl ?_
  refine ev_W.zret rfl (Or.inl rfl) ?_
  exact k
theorem sp_Z_drop0  (R : zR z m0 s p t h) (hx : ¬ (0 ≤ x ∧ x ≤ 2)) (k : Q (some (.int 0), h)) : ev_M (mf_Z_drop z) [.ref m0, .int x] h Q := by
  refine ev_M.go rfl rfl ?_
  refine ev_W.fn rfl rfl ?_
  refine ev_W.cl rfl rfl rfl rfl rfl ?_
  refine sp_Z_isClient ?_
  refine ev_W.brT rfl rfl (by rw [decide_eq_false hx]; rfl) ?_
  refine ev_W.fn rfl rfl ?_
  refine ev_W.zret rfl (Or.inl rfl) ?_
  exact k
theorem sp_Z_leave0  (R : zR z m0 s p t h) (hx : ¬ (0 ≤ x ∧ x ≤ 2)) (k : Q (some (.int 0), h)) : ev_M (mf_Z_leave z) [.ref m0, .int x] h Q := by
  refine ev_M.go rfl rfl ?_
  refine ev_W.fn rfl rfl ?_
  refine ev_W.fn rfl rfl ?_
  refine ev_W.clR rfl rfl rfl rfl rfl R.ob ?_
  refine sp_Z_speaks0 R hx ?_
  refine ev_W.fn rfl rfl ?_
  refine ev_W.fn rfl rfl ?_
  refine ev_W.zret rfl (Or.inl rfl) ?_
  exact k
theorem sp_Z_ping0  (R : zR z m0 s p t h) (hx : ¬ (0 ≤ x ∧ x ≤ 2)) (k : Q (some (.int 0), h)) : ev_M (mf_Z_ping z) [.ref m0, .int x] h Q := by
  refine ev_M.go rfl rfl ?_
  refine ev_W.fn rfl rfl ?_
  refine ev_W.fn rfl rfl ?_
  refine ev_W.clR rfl rfl rfl rfl rfl R.ob ?_
  refine sp_Z_speaks0 R hx ?_
  refine ev_W.fn rfl rfl ?_
  refine ev_W.fn rfl rfl ?_
  refine ev_W.zret rfl (Or.inl rfl) ?_
  exact k
theorem sp_Z_sub0 {T : Int64} {v a : Int32} (R : zR z m0 s p t h) (hx : ¬ (0 ≤ x ∧ x ≤ 2)) (k : Q (some (.int 0), h)) : ev_M (mf_Z_subscribe z) [.ref m0, .int x, .long T, .int v, .int a] h Q := by
  refine ev_M.go rfl rfl ?_
  refine ev_W.fn rfl rfl ?_
  refine ev_W.fn rfl rfl ?_
  refine ev_W.clR rfl rfl rfl rfl rfl R.ob ?_
  refine sp_Z_speaks0 R hx ?_
  refine ev_W.fn rfl rfl ?_
  refine ev_W.fn rfl rfl ?_
  refine ev_W.zret rfl (Or.inl rfl) ?_
  exact k
theorem sp_Z_uns0 {T : Int64} (R : zR z m0 s p t h) (hx : ¬ (0 ≤ x ∧ x ≤ 2)) (k : Q (some (.int 0), h)) : ev_M (mf_Z_unsubscribe z) [.ref m0, .int x, .long T] h Q := by
  refine ev_M.go rfl rfl ?_
  refine ev_W.fn rfl rfl ?_
  refine ev_W.fn rfl rfl ?_
  refine ev_W.clR rfl rfl rfl rfl rfl R.ob ?_
  refine sp_Z_speaks0 R hx ?_
  refine ev_W.fn rfl rfl ?_
  refine ev_W.fn rfl rfl ?_
  refine ev_W.zret rfl (Or.inl rfl) ?_
  exact k
theorem sp_Z_pub0 {T : Int64} {a b d : Int32} (R : zR z m0 s p t h) (hx : ¬ (0 ≤ x ∧ x ≤ 2)) (k : Q (some (.int 0), h)) : ev_M (mf_Z_publish z) [.ref m0, .int x, .long T, .int a, .int b, .int d] h Q := by
  refine ev_M.go rfl rfl ?_
  refine ev_W.fn rfl rfl ?_
  refine ev_W.cl rfl rfl rfl rfl rfl ?_
  refine sp_Z_isClient ?_
  refine ev_W.brT rfl rfl (by rw [decide_eq_false hx]; rfl) ?_
  refine ev_W.fn rfl rfl ?_
  refine ev_W.zret rfl (Or.inl rfl) ?_
  exact k
theorem sp_Z_dlv0 {a : Int32} (R : zR z m0 s p t h) (hx : ¬ (0 ≤ x ∧ x ≤ 2)) (k : Q (some (.int 0), h)) : ev_M (mf_Z_deliver z) [.ref m0, .int x, .int a] h Q := by
  refine ev_M.go rfl rfl ?_
  refine ev_W.fn rfl rfl ?_
  refine ev_W.cl rfl rfl rfl rfl rfl ?_
  refine sp_Z_isClient ?_
  refine ev_W.brF rfl rfl (by rw [decide_eq_false hx]; decide) ?_
  refine ev_W.fn rfl rfl ?_
  refine ev_W.ret rfl rfl ?_
  exact k
theorem sp_Z_state0  (R : zR z m0 s p t h) (hx : ¬ (0 ≤ x ∧ x ≤ 2)) (k : Q (some (.int (-1)), h)) : ev_M (mf_Z_state z) [.ref m0, .int x] h Q := by
  refine ev_M.go rfl rfl ?_
  refine ev_W.fn rfl rfl ?_
  refine ev_W.cl rfl rfl rfl rfl rfl ?_
  refine sp_Z_isClient ?_
  refine ev_W.brT rfl rfl (by rw [decide_eq_false hx]; rfl) ?_
  refine ev_W.fn rfl rfl ?_
  refine ev_W.ret rfl rfl ?_
  exact k
theorem sp_Z_session0  (R : zR z m0 s p t h) (hx : ¬ (0 ≤ x ∧ x ≤ 2)) (k : Q (some (.int (-1)), h)) : ev_M (mf_Z_session z) [.ref m0, .int x] h Q := by
  refine ev_M.go rfl rfl ?_
  refine ev_W.fn rfl rfl ?_
  refine ev_W.cl rfl rfl rfl rfl rfl ?_
  refine sp_Z_isClient ?_
  refine ev_W.brT rfl rfl (by rw [decide_eq_false hx]; rfl) ?_
  refine ev_W.fn rfl rfl ?_
  refine ev_W.ret rfl rfl ?_
  exact k
theorem sp_Z_line0 {a : Int32} (R : zR z m0 s p t h) (hx : ¬ (0 ≤ x ∧ x ≤ 2)) (k : Q (some (.int 0), h)) : ev_M (mf_Z_line z) [.ref m0, .int x, .int a] h Q := by
  refine ev_M.go rfl rfl ?_
  refine ev_W.fn rfl rfl ?_
  refine ev_W.cl rfl rfl rfl rfl rfl ?_
  refine sp_Z_isClient ?_
  refine ev_W.brT rfl rfl (by rw [decide_eq_false hx]; rfl) ?_
  refine ev_W.fn rfl rfl ?_
  refine ev_W.ret rfl rfl ?_
  exact k
theorem sp_Z_packet0 {a b : Int32} (R : zR z m0 s p t h) (hx : ¬ (0 ≤ x ∧ x ≤ 2)) (k : Q (some (.long 0), h)) : ev_M (mf_Z_packet z) [.ref m0, .int x, .int a, .int b] h Q := by
  refine ev_M.go rfl rfl ?_
  refine ev_W.fn rfl rfl ?_
  refine ev_W.cl rfl rfl rfl rfl rfl ?_
  refine sp_Z_isClient ?_
  refine ev_W.brT rfl rfl (by rw [decide_eq_false hx]; rfl) ?_
  refine ev_W.fn rfl rfl ?_
  refine ev_W.ret rfl rfl ?_
  exact k
theorem sp_Z_inbox0 {a : Int32} (R : zR z m0 s p t h) (hx : ¬ (0 ≤ x ∧ x ≤ 2)) (k : Q (some (.int 0), h)) : ev_M (mf_Z_inbox z) [.ref m0, .int x, .int a] h Q := by
  refine ev_M.go rfl rfl ?_
  refine ev_W.fn rfl rfl ?_
  refine ev_W.cl rfl rfl rfl rfl rfl ?_
  refine sp_Z_isClient ?_
  refine ev_W.brT rfl rfl (by rw [decide_eq_false hx]; rfl) ?_
  refine ev_W.fn rfl rfl ?_
  refine ev_W.ret rfl rfl ?_
  exact k
theorem sp_Z_store0  (R : zR z m0 s p t h) (hx : ¬ (0 ≤ x ∧ x ≤ 2)) (k : Q (some (.int (-1)), h)) : ev_M (mf_Z_store z) [.ref m0, .int x] h Q := by
  refine ev_M.go rfl rfl ?_
  refine ev_W.fn rfl rfl ?_
  refine ev_W.cl rfl rfl rfl rfl rfl ?_
  refine sp_Z_isClient ?_
  refine ev_W.brT rfl rfl (by rw [decide_eq_false hx]; rfl) ?_
  refine ev_W.fn rfl rfl ?_
  refine ev_W.ret rfl rfl ?_
  exact k
theorem sp_Z_will {T : Int64} {v : Int32} (R : zR z m0 s p t h) (hc : c < 3) (k : ∀ t' h', zR z m0 ((H_will s c T v).1) p t' h' → rf_E m0 h h' → Q (some (.int (zb (H_will s c T v).2)), h')) : ev_M (mf_Z_will z) [.ref m0, .int (nI c), .long T, .int v] h Q := by
  have set : (H_will s c T v) = (tI (tJ s 0 c (tx_read T)) 3 c v, true) → ∀ (t' : rf_S) (h' : ev_H), zR z m0 s p t' h' → rf_E m0 h h' → ev_W (mk_Z_will z) (23, [some (.ref m0), some (.int (nI c)), some (.long T), none, some (.int v)], [], h') Q := by
    intro e t' h' R E'
    rw [e] at k
    refine ev_W.fn rfl rfl ?_
    refine ev_W.obj rfl R.ob rfl ?_
    refine ev_W.fn rfl rfl ?_
    refine ev_W.fn rfl rfl ?_
    refine ev_W.cl rfl rfl rfl rfl rfl ?_
    refine sp_Z_plain ?_
    refine ev_W.p33 R hc (v := tx_read T) (pl_read T).symm rfl rfl (fun t1 u1 R1 E1 => ?_)
    refine ev_W.fn rfl rfl ?_
    refine ev_W.obj rfl R1.ob rfl ?_
    refine ev_W.fn rfl rfl ?_
    refine ev_W.fn rfl rfl ?_
    refine ev_W.p34 R1 hc rfl rfl (fun t2 u2 R2 E2 => ?_)
    refine ev_W.fn rfl rfl ?_
    refine ev_W.zret rfl (Or.inr rfl) ?_
    exact k _ _ R2 (rf_E.tr E' (E1.tr E2))
  unfold H_will at k set
  refine ev_M.go rfl rfl ?_
  refine ev_W.fn rfl rfl ?_
  refine ev_W.cl rfl rfl rfl rfl rfl ?_
  refine sp_Z_isClient ?_
  refine ev_W.brF rfl rfl (by rw [nI_cl hc]; decide) ?_
  refine ev_W.fn rfl rfl ?_
  refine ev_W.fn rfl rfl ?_
  refine ev_W.fn rfl rfl ?_
  refine ev_W.br rfl rfl (fun g1 => ?_) (fun g1 => ?_)
  · have g1 := lc_eq g1
    exact set (if_neg (fun q => q.1 g1)) _ _ R rf_E.rf
  · have g1 := lc_ne g1
    refine ev_W.fn rfl rfl ?_
    refine ev_W.fn rfl rfl ?_
    refine ev_W.clR rfl rfl rfl rfl rfl R.ob ?_
    refine sp_Z_isTopicR R (fun t1 u1 R1 E1 => ?_)
    refine ev_W.br rfl rfl (fun g2 => ?_) (fun g2 => ?_)
    · exact set (if_neg (fun q => by rw [zb_1.mp g2] at q; exact absurd q.2 (by decide))) _ _ R1 E1
    · refine ev_W.fn rfl rfl ?_
      refine ev_W.zret rfl (Or.inl rfl) ?_
      rw [if_pos ⟨g1, zb_n0.mp (Decidable.not_not.mp g2)⟩] at k
      exact k _ _ R1 E1
theorem sp_Z_drop (R : zR z m0 s p t h) (hc : c < 3) (k : ∀ t' h', zR z m0 ((H_drop s c).1) p t' h' → rf_E m0 h h' → Q (some (.int (zb (H_drop s c).2)), h')) : ev_M (mf_Z_drop z) [.ref m0, .int (nI c)] h Q := by
  unfold H_drop at k
  refine ev_M.go rfl rfl ?_
  refine ev_W.fn rfl rfl ?_
  refine ev_W.cl rfl rfl rfl rfl rfl ?_
  refine sp_Z_isClient ?_
  refine ev_W.brF rfl rfl (by rw [nI_cl hc]; decide) ?_
  refine ev_W.fn rfl rfl ?_
  refine ev_W.obj rfl R.ob rfl ?_
  refine ev_W.fn rfl rfl ?_
  refine ev_W.g22 R hc rfl rfl ?_
  refine ev_W.br rfl rfl (fun g1 => ?_) (fun g1 => ?_)
  · refine ev_W.fn rfl rfl ?_
    refine ev_W.fn rfl rfl ?_
    refine ev_W.clR rfl rfl rfl rfl rfl R.ob ?_
    refine sp_Z_closeLink R hc (fun t1 u1 R1 E1 => ?_)
    refine ev_W.fn rfl rfl ?_
    refine ev_W.zret rfl (Or.inr rfl) ?_
    rw [if_neg g1] at k
    exact k _ _ R1 E1
  · refine ev_W.fn rfl rfl ?_
    refine ev_W.zret rfl (Or.inl rfl) ?_
    rw [if_pos (Decidable.not_not.mp g1)] at k
    exact k _ _ R rf_E.rf
theorem sp_Z_leave (R : zR z m0 s p t h) (hc : c < 3) (k : ∀ t' h', zR z m0 ((H_leave s c).1) p t' h' → rf_E m0 h h' → Q (some (.int (zb (H_leave s c).2)), h')) : ev_M (mf_Z_leave z) [.ref m0, .int (nI c)] h Q := by
  have e2 : (2 : Int32) * nI c = nI (2 * c) := zm 2 c
  unfold H_leave at k
  refine ev_M.go rfl rfl ?_
  refine ev_W.fn rfl rfl ?_
  refine ev_W.fn rfl rfl ?_
  refine ev_W.clR rfl rfl rfl rfl rfl R.ob ?_
  refine sp_Z_speaks R hc ?_
  refine ev_W.br rfl rfl (fun g1 => ?_) (fun g1 => ?_)
  · have g1 := zb_1.mp g1
    have hl := (cs_ok g1).2
    rw [if_pos g1] at k
    refine ev_W.fn rfl rfl ?_
    refine ev_W.obj rfl R.ob rfl ?_
    refine ev_W.fn rfl rfl ?_
    refine ev_W.fn rfl rfl ?_
    refine ev_W.p22 R hc rfl rfl (fun t1 u1 R1 E1 => ?_)
    refine ev_W.fn rfl rfl ?_
    refine ev_W.fn rfl rfl ?_
    refine ev_W.fn rfl rfl ?_
    refine ev_W.fn rfl rfl ?_
    refine ev_W.fn rfl rfl ?_
    refine ev_W.fn rfl rfl ?_
    refine ev_W.fn rfl rfl ?_
    refine ev_W.clR rfl rfl rfl rfl rfl R1.ob ?_
    rw [e2]
    refine sp_Z_send R1 (l := 2 * c) (by omega) (by show (sN s (2 * c)).length ≤ 30; omega) (by decide) (fun t2 u2 R2 E2 => ?_)
    refine ev_W.fn rfl rfl ?_
    refine ev_W.fn rfl rfl ?_
    refine ev_W.zret rfl (Or.inr rfl) ?_
    exact k _ _ R2 (E1.tr E2)
  · refine ev_W.fn rfl rfl ?_
    refine ev_W.zret rfl (Or.inl rfl) ?_
    rw [if_neg (by rw [zb_n0.mp (Decidable.not_not.mp g1)]; decide)] at k
    exact k _ _ R rf_E.rf
theorem sp_Z_ping (R : zR z m0 s p t h) (hc : c < 3) (k : ∀ t' h', zR z m0 ((H_ping s c).1) p t' h' → rf_E m0 h h' → Q (some (.int (zb (H_ping s c).2)), h')) : ev_M (mf_Z_ping z) [.ref m0, .int (nI c)] h Q := by
  have e2 : (2 : Int32) * nI c = nI (2 * c) := zm 2 c
  unfold H_ping at k
  refine ev_M.go rfl rfl ?_
  refine ev_W.fn rfl rfl ?_
  refine ev_W.fn rfl rfl ?_
  refine ev_W.clR rfl rfl rfl rfl rfl R.ob ?_
  refine sp_Z_speaks R hc ?_
  refine ev_W.br rfl rfl (fun g1 => ?_) (fun g1 => ?_)
  · have g1 := zb_1.mp g1
    have hl := (cs_ok g1).2
    rw [if_pos g1] at k
    refine ev_W.fn rfl rfl ?_
    refine ev_W.fn rfl rfl ?_
    refine ev_W.fn rfl rfl ?_
    refine ev_W.fn rfl rfl ?_
    refine ev_W.fn rfl rfl ?_
    refine ev_W.fn rfl rfl ?_
    refine ev_W.fn rfl rfl ?_
    refine ev_W.clR rfl rfl rfl rfl rfl R.ob ?_
    rw [e2]
    refine sp_Z_send R (l := 2 * c) (by omega) (by omega) (by decide) (fun t1 u1 R1 E1 => ?_)
    refine ev_W.fn rfl rfl ?_
    refine ev_W.fn rfl rfl ?_
    refine ev_W.zret rfl (Or.inr rfl) ?_
    exact k _ _ R1 E1
  · refine ev_W.fn rfl rfl ?_
    refine ev_W.zret rfl (Or.inl rfl) ?_
    rw [if_neg (by rw [zb_n0.mp (Decidable.not_not.mp g1)]; decide)] at k
    exact k _ _ R rf_E.rf
theorem sp_Z_sub {F : Int64} {q : Int32} {nl : Bool} (R : zR z m0 s p t h) (hc : c < 3) (k : ∀ t' h', zR z m0 ((H_sub s c F q nl).1) p t' h' → rf_E m0 h h' → Q (some (.int (zb (H_sub s c F q nl).2)), h')) : ev_M (mf_Z_subscribe z) [.ref m0, .int (nI c), .long F, .int q, .int (zb nl)] h Q := by
  have e2 : (2 : Int32) * nI c = nI (2 * c) := zm 2 c
  have epl := pl_read F
  unfold H_sub at k
  refine ev_M.go rfl rfl ?_
  refine ev_W.fn rfl rfl ?_
  refine ev_W.fn rfl rfl ?_
  refine ev_W.clR rfl rfl rfl rfl rfl R.ob ?_
  refine sp_Z_speaks R hc ?_
  refine ev_W.br rfl rfl (fun g1 => ?_) (fun g1 => ?_)
  · refine ev_W.fn rfl rfl ?_
    refine ev_W.zret rfl (Or.inl rfl) ?_
    rw [if_neg (fun w => by rw [zb_n0.mp g1] at w; exact absurd w.1 (by decide))] at k
    exact k _ _ R rf_E.rf
  · have g1 := zb_1.mp g1
    have hl := (cs_ok g1).2
    refine ev_W.fn rfl rfl ?_
    refine ev_W.fn rfl rfl ?_
    refine ev_W.clR rfl rfl rfl rfl rfl R.ob ?_
    refine sp_Z_isFilterR R (fun t1 u1 R1 E1 => ?_)
    refine ev_W.br rfl rfl (fun g2 => ?_) (fun g2 => ?_)
    · refine ev_W.fn rfl rfl ?_
      refine ev_W.zret rfl (Or.inl rfl) ?_
      rw [if_neg (fun w => by rw [zb_n0.mp g2] at w; exact absurd w.2.1 (by decide))] at k
      exact k _ _ R1 E1
    · refine ev_W.fn rfl rfl ?_
      refine ev_W.br rfl rfl (fun g3 => ?_) (fun g3 => ?_)
      · refine ev_W.fn rfl rfl ?_
        refine ev_W.zret rfl (Or.inl rfl) ?_
        rw [if_neg (fun w => Int32.not_le.mpr g3 w.2.2.1)] at k
        exact k _ _ R1 E1
      · refine ev_W.fn rfl rfl ?_
        refine ev_W.fn rfl rfl ?_
        refine ev_W.br rfl rfl (fun g4 => ?_) (fun g4 => ?_)
        · rw [if_pos ⟨g1, zb_1.mp g2, Int32.not_lt.mp g3, g4⟩] at k
          refine ev_W.fn rfl rfl ?_
          refine ev_W.fn rfl rfl ?_
          refine ev_W.fn rfl rfl ?_
          refine ev_W.fn rfl rfl ?_
          refine ev_W.fn rfl rfl ?_
          refine ev_W.fn rfl rfl ?_
          refine ev_W.fn rfl rfl ?_
          refine ev_W.clR rfl rfl rfl rfl rfl R1.ob ?_
          rw [e2]
          refine sp_Z_send R1 (l := 2 * c) (by omega) (by omega) (by decide) (fun t2 u2 R2 E2 => ?_)
          refine ev_W.fn rfl rfl ?_
          refine ev_W.fn rfl rfl ?_
          refine ev_W.obj rfl R2.ob rfl ?_
          refine ev_W.fn rfl rfl ?_
          refine ev_W.fn rfl rfl ?_
          refine ev_W.cl rfl rfl rfl rfl rfl ?_
          refine sp_Z_plain ?_
          refine ev_W.p7L R2 (l := 2 * c) (x := tx_read F) (by omega) (sN_tN _ _ _) (by show ¬ (8 : Int32) = 1; decide) epl.symm rfl rfl (fun t3 u3 R3 E3 => ?_)
          refine ev_W.fn rfl rfl ?_
          refine ev_W.obj rfl R3.ob rfl ?_
          refine ev_W.fn rfl rfl ?_
          refine ev_W.fn rfl rfl ?_
          refine ev_W.p6L R3 (l := 2 * c) (by omega) (sN_tN _ _ _) (by show ¬ (8 : Int32) = 1; decide) rfl rfl (fun t4 u4 R4 E4 => ?_)
          refine ev_W.fn rfl rfl ?_
          refine ev_W.zret rfl (Or.inr rfl) ?_
          rw [tN_tN, tN_tN] at R4
          exact k _ _ R4 (E1.tr (E2.tr (E3.tr E4)))
        · refine ev_W.fn rfl rfl ?_
          refine ev_W.zret rfl (Or.inl rfl) ?_
          rw [if_neg (fun w => g4 w.2.2.2)] at k
          exact k _ _ R1 E1
theorem sp_Z_uns {F : Int64} (R : zR z m0 s p t h) (hc : c < 3) (k : ∀ t' h', zR z m0 ((H_uns s c F).1) p t' h' → rf_E m0 h h' → Q (some (.int (zb (H_uns s c F).2)), h')) : ev_M (mf_Z_unsubscribe z) [.ref m0, .int (nI c), .long F] h Q := by
  have e2 : (2 : Int32) * nI c = nI (2 * c) := zm 2 c
  have epl := pl_read F
  unfold H_uns at k
  refine ev_M.go rfl rfl ?_
  refine ev_W.fn rfl rfl ?_
  refine ev_W.fn rfl rfl ?_
  refine ev_W.clR rfl rfl rfl rfl rfl R.ob ?_
  refine sp_Z_speaks R hc ?_
  refine ev_W.br rfl rfl (fun g1 => ?_) (fun g1 => ?_)
  · refine ev_W.fn rfl rfl ?_
    refine ev_W.zret rfl (Or.inl rfl) ?_
    rw [if_neg (fun w => by rw [zb_n0.mp g1] at w; exact absurd w.1 (by decide))] at k
    exact k _ _ R rf_E.rf
  · have g1 := zb_1.mp g1
    have hl := (cs_ok g1).2
    refine ev_W.fn rfl rfl ?_
    refine ev_W.fn rfl rfl ?_
    refine ev_W.clR rfl rfl rfl rfl rfl R.ob ?_
    refine sp_Z_isFilterR R (fun t1 u1 R1 E1 => ?_)
    refine ev_W.br rfl rfl (fun g2 => ?_) (fun g2 => ?_)
    · rw [if_pos ⟨g1, zb_1.mp g2⟩] at k
      refine ev_W.fn rfl rfl ?_
      refine ev_W.fn rfl rfl ?_
      refine ev_W.fn rfl rfl ?_
      refine ev_W.fn rfl rfl ?_
      refine ev_W.fn rfl rfl ?_
      refine ev_W.fn rfl rfl ?_
      refine ev_W.fn rfl rfl ?_
      refine ev_W.clR rfl rfl rfl rfl rfl R1.ob ?_
      rw [e2]
      refine sp_Z_send R1 (l := 2 * c) (by omega) (by omega) (by decide) (fun t2 u2 R2 E2 => ?_)
      refine ev_W.fn rfl rfl ?_
      refine ev_W.fn rfl rfl ?_
      refine ev_W.obj rfl R2.ob rfl ?_
      refine ev_W.fn rfl rfl ?_
      refine ev_W.fn rfl rfl ?_
      refine ev_W.cl rfl rfl rfl rfl rfl ?_
      refine sp_Z_plain ?_
      refine ev_W.p7L R2 (l := 2 * c) (x := tx_read F) (by omega) (sN_tN _ _ _) (by show ¬ (10 : Int32) = 1; decide) epl.symm rfl rfl (fun t3 u3 R3 E3 => ?_)
      refine ev_W.fn rfl rfl ?_
      refine ev_W.zret rfl (Or.inr rfl) ?_
      rw [tN_tN] at R3
      exact k _ _ R3 (E1.tr (E2.tr E3))
    · refine ev_W.fn rfl rfl ?_
      refine ev_W.zret rfl (Or.inl rfl) ?_
      rw [if_neg (fun w => by rw [zb_n0.mp (Decidable.not_not.mp g2)] at w; exact absurd w.2 (by decide))] at k
      exact k _ _ R1 E1
theorem sp_Z_fail (R : zR z m0 s p t h) (k : ∀ t' h', zR z m0 (if 0 ≤ x ∧ x ≤ 2 then tI s 14 0 x else s) p t' h' → rf_E m0 h h' → Q (some (.int (zb (decide (0 ≤ x ∧ x ≤ 2)))), h')) : ev_M (mf_Z_fail z) [.ref m0, .int x] h Q := by
  refine ev_M.go rfl rfl ?_
  refine ev_W.fn rfl rfl ?_
  refine ev_W.br rfl rfl (fun g1 => ?_) (fun g1 => ?_)
  · refine ev_W.fn rfl rfl ?_
    refine ev_W.zret rfl (Or.inl rfl) ?_
    have e := fun w : 0 ≤ x ∧ x ≤ 2 => Int32.not_le.mpr g1 w.1
    rw [if_neg e, decide_eq_false e] at k
    exact k _ _ R rf_E.rf
  · refine ev_W.fn rfl rfl ?_
    refine ev_W.fn rfl rfl ?_
    refine ev_W.br rfl rfl (fun g2 => ?_) (fun g2 => ?_)
    · have e := (⟨Int32.not_lt.mp g1, g2⟩ : 0 ≤ x ∧ x ≤ 2)
      rw [if_pos e, decide_eq_true e] at k
      refine ev_W.fn rfl rfl ?_
      refine ev_W.fn rfl rfl ?_
      refine ev_W.p62 R rfl (fun t1 u1 R1 E1 => ?_)
      refine ev_W.fn rfl rfl ?_
      refine ev_W.zret rfl (Or.inr rfl) ?_
      exact k _ _ R1 E1
    · refine ev_W.fn rfl rfl ?_
      refine ev_W.zret rfl (Or.inl rfl) ?_
      have e := fun w : 0 ≤ x ∧ x ≤ 2 => g2 w.2
      rw [if_neg e, decide_eq_false e] at k
      exact k _ _ R rf_E.rf
end ZY1
