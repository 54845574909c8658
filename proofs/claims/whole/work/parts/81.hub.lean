/-! The hub's own methods (laid by wip/whole/p81.py). -/
theorem ncl {c : Nat} (hc : c < 3) : (0 : Int32) ≤ nI c ∧ nI c ≤ 2 := ⟨nI_pos' (by omega), nI_le (b := 2) (by omega) (by decide)⟩
def cs (s : hb_S) (c : Nat) : Bool := decide (sI s 0 c = 2 ∧ (sN s (2 * c)).length < 12)
def ckp (s : hb_S) (c : Nat) : Bool := decide ((sP s c).length < 4 ∧ (sN s (2 * c)).length < 12)
def H_will (s : hb_S) (c : Nat) (t : Int64) (v : Int32) : hb_S × Bool := if ¬ t = 0 ∧ tx_tg (tx_read t) 8 0 = false then (s, false) else (tI (tJ s 0 c (tx_read t)) 3 c v, true)
def H_con (s : hb_S) (c : Nat) (cl : Bool) (ex wi ke : Int32) : hb_S × Bool := if sI s 0 c = 0 ∧ (0 ≤ ex ∧ ex ≤ 50) ∧ (1 ≤ wi ∧ wi ≤ 3) ∧ (0 ≤ ke ∧ ke ≤ 20) then (M_open s c cl ex wi ke, true) else (s, false)
def H_drop (s : hb_S) (c : Nat) : hb_S × Bool := if sI s 0 c = 0 then (s, false) else (M_close s c, true)
def H_leave (s : hb_S) (c : Nat) : hb_S × Bool := if cs s c = true then (tI (M_up s c (mkp 14 0 0)) 0 c 3, true) else (s, false)
def H_ping (s : hb_S) (c : Nat) : hb_S × Bool := if cs s c = true then (M_up s c (mkp 12 0 0), true) else (s, false)
def H_sub (s : hb_S) (c : Nat) (f : Int64) (q : Int32) (nl : Bool) : hb_S × Bool := if cs s c = true ∧ tx_fg (tx_read f) 8 0 = true ∧ (0 ≤ q ∧ q ≤ 2) then (M_up s c (8, 0, q, tx_read f, 0, false, nl, 0, 0, 0), true) else (s, false)
def H_uns (s : hb_S) (c : Nat) (f : Int64) : hb_S × Bool := if cs s c = true ∧ tx_fg (tx_read f) 8 0 = true then (M_up s c (10, 0, 0, tx_read f, 0, false, false, 0, 0, 0), true) else (s, false)
def H_pub (s : hb_S) (c : Nat) (t : Int64) (v q : Int32) (r : Bool) : hb_S × Bool := if tx_tg (tx_read t) 8 0 = true ∧ (0 ≤ q ∧ q ≤ 2) then (if q = 0 then (if cs s c = true then (M_up s c (M_pkt (tx_read t, v, q, r) 0 false), true) else (s, false)) else if ckp s c = true then (M_keep s c (tx_read t, v, q, r), true) else (s, false)) else (s, false)
def H_upF (s : hb_S) (c : Nat) (p : hb_Pk) : hb_S := if sI s 14 0 = 1 then tI s 14 0 0 else M_recv (tI s 14 0 0) c p
def H_up (s : hb_S) (c : Nat) : hb_S × Int32 := match sN s (2 * c) with
  | [] => (s, 0)
  | p :: r => if (sN s (2 * c + 1)).length < 12 then (if sI s 14 0 = 0 then (H_upF (tN s (2 * c) r) c p, p.1) else (M_bd (H_upF (tN s (2 * c) r) c p), p.1)) else (s, -1)
def H_dn (s : hb_S) (c : Nat) : hb_S × Int32 := match sN s (2 * c + 1) with
  | [] => (s, 0)
  | p :: r => if ¬ sI s 0 c = 3 ∧ (sN s (2 * c)).length < 12 then (M_crv (tN s (2 * c + 1) r) c p, p.1) else (s, -1)
def H_st (s : hb_S) (c : Nat) : Int32 := sI s 0 c + (if sI s 5 c = 0 then 0 else 4) + (if sI s 1 c = 0 then 0 else 8)
def pk_no (p : hb_Pk) : Int64 := (p.1 + 16 * p.2.2.2.2.1 + (if p.2.2.2.2.2.1 = true then 64 else 0) + (if p.2.2.2.2.2.2.1 = true then 128 else 0) + 256 * p.2.1).toInt64 + 65536 * p.2.2.1.toInt64
def H_pk (l : List hb_Pk) (k : Int32) : Int64 := if k < 0 then 0 else match l[k.toNatClampNeg]? with
  | none => 0
  | some p => pk_no p
def H_mt (f t : Int64) : Bool := tx_fg (tx_read f) 8 0 && tx_tg (tx_read t) 8 0 && tc_cov (tx_read f) (tx_read t)
section HH
variable {z : Nat × Nat} {sz dyn : Nat} {mu : Nat → Option ev_E} {c : Nat} {Q : ev_O → Prop}
theorem sp_H_canSend {n1 n2 : Nat} {G : hb_G} {s : hb_S} {h : ev_H} (R : hb_R z sz dyn mu G n1 n2 s h) (hc : c < 3) (k : Q (some (.int (zb (cs s c))), h)) : ev_M (mf_H_canSend z) [.ref sz, .int (nI c)] h Q := by
  have hn := R.nlen (l := 2 * c) (by omega)
  refine ev_M.go rfl rfl ?_
  refine ev_W.fn rfl rfl ?_
  refine ev_W.cl rfl rfl rfl rfl rfl ?_
  refine sp_isClient ?_
  refine ev_W.brF rfl rfl (zb_1.mpr (decide_eq_true (ncl hc))) ?_
  refine ev_W.fn rfl rfl ?_
  refine ev_W.obj rfl R.o0 rfl ?_
  refine ev_W.fn rfl rfl ?_
  refine ev_W.lk R hc rfl ?_
  refine ev_W.obj rfl (R.o1 hc) rfl ?_
  refine ev_W.fn rfl rfl ?_
  refine ev_W.br rfl rfl (fun h1 => ?_) (fun h1 => ?_)
  · refine ev_W.fn rfl rfl ?_
    refine ev_W.zret rfl (Or.inl rfl) ?_
    have e : cs s c = false := decide_eq_false (fun q => h1 q.1)
    rw [e] at k
    exact k
  · refine ev_W.fn rfl rfl ?_
    refine ev_W.obj rfl R.o0 rfl ?_
    refine ev_W.fn rfl rfl ?_
    refine ev_W.lk R hc rfl ?_
    refine ev_W.obj rfl (R.o1 hc) rfl ?_
    refine ev_W.clR rfl rfl rfl rfl rfl (R.lo (nl_lt (by omega))) ?_
    refine R.nsize (by omega) ?_
    refine ev_W.fn rfl rfl ?_
    refine ev_W.br rfl rfl (fun h2 => ?_) (fun h2 => ?_)
    · refine ev_W.fn rfl rfl ?_
      refine ev_W.zret rfl (Or.inl rfl) ?_
      have e : cs s c = false := decide_eq_false (fun q => nI_ge (b := 12) q.2 (by decide) h2)
      rw [e] at k
      exact k
    · refine ev_W.fn rfl rfl ?_
      refine ev_W.fn rfl rfl ?_
      refine ev_W.zret rfl (Or.inr rfl) ?_
      have e : cs s c = true := decide_eq_true ⟨Decidable.not_not.mp h1, Nat.lt_of_not_le (fun q => h2 (nI_le (a := 12) q (by omega)))⟩
      rw [e] at k
      exact k
theorem sp_H_canSend0 {n1 n2 : Nat} {G : hb_G} {s : hb_S} {h : ev_H} {x : Int32} (R : hb_R z sz dyn mu G n1 n2 s h) (hx : ¬ (0 ≤ x ∧ x ≤ 2)) (k : Q (some (.int (zb false)), h)) : ev_M (mf_H_canSend z) [.ref sz, .int x] h Q := by
  refine ev_M.go rfl rfl ?_
  refine ev_W.fn rfl rfl ?_
  refine ev_W.cl rfl rfl rfl rfl rfl ?_
  refine sp_isClient ?_
  refine ev_W.brT rfl rfl (zb_n0.mpr (decide_eq_false hx)) ?_
  refine ev_W.fn rfl rfl ?_
  refine ev_W.zret rfl (Or.inl rfl) ?_
  exact k
theorem sp_H_canKeep {n1 n2 : Nat} {G : hb_G} {s : hb_S} {h : ev_H} (R : hb_R z sz dyn mu G n1 n2 s h) (hc : c < 3) (k : Q (some (.int (zb (ckp s c))), h)) : ev_M (mf_H_canKeep z) [.ref sz, .int (nI c)] h Q := by
  have hn := R.nlen (l := 2 * c) (by omega)
  have hp := R.plen (l := c) (by omega)
  refine ev_M.go rfl rfl ?_
  refine ev_W.fn rfl rfl ?_
  refine ev_W.cl rfl rfl rfl rfl rfl ?_
  refine sp_isClient ?_
  refine ev_W.brF rfl rfl (zb_1.mpr (decide_eq_true (ncl hc))) ?_
  refine ev_W.fn rfl rfl ?_
  refine ev_W.obj rfl R.o0 rfl ?_
  refine ev_W.fn rfl rfl ?_
  refine ev_W.ck R hc rfl ?_
  refine ev_W.obj rfl (R.o3 hc) rfl ?_
  refine ev_W.clR rfl rfl rfl rfl rfl (R.lo (hb_pj_lt (by omega))) ?_
  refine R.psize (by omega) ?_
  refine ev_W.fn rfl rfl ?_
  refine ev_W.br rfl rfl (fun h1 => ?_) (fun h1 => ?_)
  · refine ev_W.fn rfl rfl ?_
    refine ev_W.zret rfl (Or.inl rfl) ?_
    have e : ckp s c = false := decide_eq_false (fun q => nI_ge (b := 4) q.1 (by decide) h1)
    rw [e] at k
    exact k
  · refine ev_W.fn rfl rfl ?_
    refine ev_W.obj rfl R.o0 rfl ?_
    refine ev_W.fn rfl rfl ?_
    refine ev_W.lk R hc rfl ?_
    refine ev_W.obj rfl (R.o1 hc) rfl ?_
    refine ev_W.clR rfl rfl rfl rfl rfl (R.lo (nl_lt (by omega))) ?_
    refine R.nsize (by omega) ?_
    refine ev_W.fn rfl rfl ?_
    refine ev_W.br rfl rfl (fun h2 => ?_) (fun h2 => ?_)
    · refine ev_W.fn rfl rfl ?_
      refine ev_W.zret rfl (Or.inl rfl) ?_
      have e : ckp s c = false := decide_eq_false (fun q => nI_ge (b := 12) q.2 (by decide) h2)
      rw [e] at k
      exact k
    · refine ev_W.fn rfl rfl ?_
      refine ev_W.fn rfl rfl ?_
      refine ev_W.zret rfl (Or.inr rfl) ?_
      have e : ckp s c = true := decide_eq_true ⟨Nat.lt_of_not_le (fun q => h1 (nI_le (a := 4) q (by omega))), Nat.lt_of_not_le (fun q => h2 (nI_le (a := 12) q (by omega)))⟩
      rw [e] at k
      exact k
theorem sp_H_will {n1 n2 : Nat} {G : hb_G} {s : hb_S} {h : ev_H} {t : Int64} {v : Int32} (R : hb_R z sz dyn mu G n1 n2 s h) (hc : c < 3) (k : ∀ (G' : hb_G) (h' : ev_H), hb_R z sz dyn mu G' (n1 + 0) (n2 + 0) (H_will s c t v).1 h' → hb_E dyn G h G' h' → Q (some (.int (zb (H_will s c t v).2)), h')) : ev_M (mf_H_will z) [.ref sz, .int (nI c), .long t, .int v] h Q := by
  unfold H_will at k
  refine ev_M.go rfl rfl ?_
  refine ev_W.fn rfl rfl ?_
  refine ev_W.cl rfl rfl rfl rfl rfl ?_
  refine sp_T_read ?_
  refine ev_W.fn rfl rfl ?_
  refine ev_W.fn rfl rfl ?_
  refine ev_W.cl rfl rfl rfl rfl rfl ?_
  refine sp_isClient ?_
  refine ev_W.brF rfl rfl (zb_1.mpr (decide_eq_true (ncl hc))) ?_
  refine ev_W.fn rfl rfl ?_
  refine ev_W.fn rfl rfl ?_
  refine ev_W.fn rfl rfl ?_
  refine ev_W.br rfl rfl (fun h1 => ?_) (fun h1 => ?_)
  · rw [if_neg (fun q => q.1 (lc_eq h1))] at k
    refine ev_W.fn rfl rfl ?_
    refine ev_W.obj rfl R.o0 rfl ?_
    refine ev_W.fn rfl rfl ?_
    refine ev_W.ck R hc rfl ?_
    refine ev_W.fn rfl rfl ?_
    refine ev_W.fn rfl rfl ?_
    refine ev_W.clR rfl rfl rfl rfl rfl (R.o3 hc) ?_
    refine sp_C_setWill R hc (fun G1 u1 R1 E1 => ?_)
    refine ev_W.fn rfl rfl ?_
    refine ev_W.zret rfl (Or.inr rfl) ?_
    exact k _ _ (R1.up (by omega) (by omega)) E1
  · refine ev_W.fn rfl rfl ?_
    refine ev_W.cl rfl rfl rfl rfl rfl ?_
    refine sp_T_isTopic ?_
    refine ev_W.br rfl rfl (fun h2 => ?_) (fun h2 => ?_)
    · have h2 := zb_1.mp h2
      rw [if_neg (fun q => by rw [h2] at q; cases q.2)] at k
      refine ev_W.fn rfl rfl ?_
      refine ev_W.obj rfl R.o0 rfl ?_
      refine ev_W.fn rfl rfl ?_
      refine ev_W.ck R hc rfl ?_
      refine ev_W.fn rfl rfl ?_
      refine ev_W.fn rfl rfl ?_
      refine ev_W.clR rfl rfl rfl rfl rfl (R.o3 hc) ?_
      refine sp_C_setWill R hc (fun G2 u2 R2 E2 => ?_)
      refine ev_W.fn rfl rfl ?_
      refine ev_W.zret rfl (Or.inr rfl) ?_
      exact k _ _ (R2.up (by omega) (by omega)) E2
    · have h2 := zb_n0.mp (Decidable.not_not.mp h2)
      rw [if_pos ⟨lc_ne h1, h2⟩] at k
      refine ev_W.fn rfl rfl ?_
      refine ev_W.zret rfl (Or.inl rfl) ?_
      exact k _ _ (R.up (by omega) (by omega)) hb_E.rf
theorem sp_H_will0 {n1 n2 : Nat} {G : hb_G} {s : hb_S} {h : ev_H} {t : Int64} {v : Int32} {x : Int32} (R : hb_R z sz dyn mu G n1 n2 s h) (hx : ¬ (0 ≤ x ∧ x ≤ 2)) (k : Q (some (.int 0), h)) : ev_M (mf_H_will z) [.ref sz, .int x, .long t, .int v] h Q := by
  refine ev_M.go rfl rfl ?_
  refine ev_W.fn rfl rfl ?_
  refine ev_W.cl rfl rfl rfl rfl rfl ?_
  refine sp_T_read ?_
  refine ev_W.fn rfl rfl ?_
  refine ev_W.fn rfl rfl ?_
  refine ev_W.cl rfl rfl rfl rfl rfl ?_
  refine sp_isClient ?_
  refine ev_W.brT rfl rfl (zb_n0.mpr (decide_eq_false hx)) ?_
  refine ev_W.fn rfl rfl ?_
  refine ev_W.zret rfl (Or.inl rfl) ?_
  exact k
theorem sp_H_con {n1 n2 : Nat} {G : hb_G} {s : hb_S} {h : ev_H} {cl : Bool} {ex wi ke : Int32} (R : hb_R z sz dyn mu G n1 n2 s h) (hc : c < 3) (hu : (sN s (2 * c)).length ≤ 20) (k : ∀ (G' : hb_G) (h' : ev_H), hb_R z sz dyn mu G' (n1 + 2) (n2 + 50) (H_con s c cl ex wi ke).1 h' → hb_E dyn G h G' h' → Q (some (.int (zb (H_con s c cl ex wi ke).2)), h')) : ev_M (mf_H_connect z) [.ref sz, .int (nI c), .int (zb cl), .int ex, .int wi, .int ke] h Q := by
  unfold H_con at k
  refine ev_M.go rfl rfl ?_
  refine ev_W.fn rfl rfl ?_
  refine ev_W.cl rfl rfl rfl rfl rfl ?_
  refine sp_isClient ?_
  refine ev_W.brF rfl rfl (zb_1.mpr (decide_eq_true (ncl hc))) ?_
  refine ev_W.fn rfl rfl ?_
  refine ev_W.obj rfl R.o0 rfl ?_
  refine ev_W.fn rfl rfl ?_
  refine ev_W.lk R hc rfl ?_
  refine ev_W.obj rfl (R.o1 hc) rfl ?_
  refine ev_W.br rfl rfl (fun h1 => ?_) (fun h1 => ?_)
  · refine ev_W.fn rfl rfl ?_
    refine ev_W.fn rfl rfl ?_
    refine ev_W.fn rfl rfl ?_
    refine ev_W.cl rfl rfl rfl rfl rfl ?_
    refine sp_isWithin ?_
    refine ev_W.br rfl rfl (fun h2 => ?_) (fun h2 => ?_)
    · rw [if_neg (fun q => (of_decide_eq_false (zb_n0.mp h2)) q.2.1)] at k
      refine ev_W.fn rfl rfl ?_
      refine ev_W.zret rfl (Or.inl rfl) ?_
      exact k _ _ (R.up (by omega) (by omega)) hb_E.rf
    · refine ev_W.fn rfl rfl ?_
      refine ev_W.fn rfl rfl ?_
      refine ev_W.fn rfl rfl ?_
      refine ev_W.cl rfl rfl rfl rfl rfl ?_
      refine sp_isWithin ?_
      refine ev_W.br rfl rfl (fun h3 => ?_) (fun h3 => ?_)
      · rw [if_neg (fun q => (of_decide_eq_false (zb_n0.mp h3)) q.2.2.1)] at k
        refine ev_W.fn rfl rfl ?_
        refine ev_W.zret rfl (Or.inl rfl) ?_
        exact k _ _ (R.up (by omega) (by omega)) hb_E.rf
      · refine ev_W.fn rfl rfl ?_
        refine ev_W.fn rfl rfl ?_
        refine ev_W.fn rfl rfl ?_
        refine ev_W.cl rfl rfl rfl rfl rfl ?_
        refine sp_isWithin ?_
        refine ev_W.br rfl rfl (fun h4 => ?_) (fun h4 => ?_)
        · rw [if_pos ⟨h1, of_decide_eq_true (zb_1.mp h2), of_decide_eq_true (zb_1.mp h3), of_decide_eq_true (zb_1.mp h4)⟩] at k
          refine ev_W.fn rfl rfl ?_
          refine ev_W.obj rfl R.o0 rfl ?_
          refine ev_W.fn rfl rfl ?_
          refine ev_W.ck R hc rfl ?_
          refine ev_W.fn rfl rfl ?_
          refine ev_W.fn rfl rfl ?_
          refine ev_W.fn rfl rfl ?_
          refine ev_W.fn rfl rfl ?_
          refine ev_W.clR rfl rfl rfl rfl rfl (R.o3 hc) ?_
          refine sp_C_openLink R hc hu (fun G1 u1 R1 E1 => ?_)
          refine ev_W.fn rfl rfl ?_
          refine ev_W.zret rfl (Or.inr rfl) ?_
          exact k _ _ (R1.up (by omega) (by omega)) E1
        · rw [if_neg (fun q => (of_decide_eq_false (zb_n0.mp (Decidable.not_not.mp h4))) q.2.2.2)] at k
          refine ev_W.fn rfl rfl ?_
          refine ev_W.zret rfl (Or.inl rfl) ?_
          exact k _ _ (R.up (by omega) (by omega)) hb_E.rf
  · rw [if_neg (fun q => h1 q.1)] at k
    refine ev_W.fn rfl rfl ?_
    refine ev_W.zret rfl (Or.inl rfl) ?_
    exact k _ _ (R.up (by omega) (by omega)) hb_E.rf
theorem sp_H_con0 {n1 n2 : Nat} {G : hb_G} {s : hb_S} {h : ev_H} {cl : Bool} {ex wi ke : Int32} {x : Int32} (R : hb_R z sz dyn mu G n1 n2 s h) (hx : ¬ (0 ≤ x ∧ x ≤ 2)) (k : Q (some (.int 0), h)) : ev_M (mf_H_connect z) [.ref sz, .int x, .int (zb cl), .int ex, .int wi, .int ke] h Q := by
  refine ev_M.go rfl rfl ?_
  refine ev_W.fn rfl rfl ?_
  refine ev_W.cl rfl rfl rfl rfl rfl ?_
  refine sp_isClient ?_
  refine ev_W.brT rfl rfl (zb_n0.mpr (decide_eq_false hx)) ?_
  refine ev_W.fn rfl rfl ?_
  refine ev_W.zret rfl (Or.inl rfl) ?_
  exact k
theorem sp_H_drop {n1 n2 : Nat} {G : hb_G} {s : hb_S} {h : ev_H} (R : hb_R z sz dyn mu G n1 n2 s h) (hc : c < 3) (k : ∀ (G' : hb_G) (h' : ev_H), hb_R z sz dyn mu G' (n1 + 0) (n2 + 0) (H_drop s c).1 h' → hb_E dyn G h G' h' → Q (some (.int (zb (H_drop s c).2)), h')) : ev_M (mf_H_drop z) [.ref sz, .int (nI c)] h Q := by
  unfold H_drop at k
  refine ev_M.go rfl rfl ?_
  refine ev_W.fn rfl rfl ?_
  refine ev_W.cl rfl rfl rfl rfl rfl ?_
  refine sp_isClient ?_
  refine ev_W.brF rfl rfl (zb_1.mpr (decide_eq_true (ncl hc))) ?_
  refine ev_W.fn rfl rfl ?_
  refine ev_W.obj rfl R.o0 rfl ?_
  refine ev_W.fn rfl rfl ?_
  refine ev_W.lk R hc rfl ?_
  refine ev_W.obj rfl (R.o1 hc) rfl ?_
  refine ev_W.br rfl rfl (fun h1 => ?_) (fun h1 => ?_)
  · rw [if_neg h1] at k
    refine ev_W.fn rfl rfl ?_
    refine ev_W.obj rfl R.o0 rfl ?_
    refine ev_W.fn rfl rfl ?_
    refine ev_W.lk R hc rfl ?_
    refine ev_W.clR rfl rfl rfl rfl rfl (R.o1 hc) ?_
    refine sp_L_close R hc (fun G1 u1 R1 E1 => ?_)
    refine ev_W.fn rfl rfl ?_
    refine ev_W.zret rfl (Or.inr rfl) ?_
    exact k _ _ (R1.up (by omega) (by omega)) E1
  · rw [if_pos (Decidable.not_not.mp h1)] at k
    refine ev_W.fn rfl rfl ?_
    refine ev_W.zret rfl (Or.inl rfl) ?_
    exact k _ _ (R.up (by omega) (by omega)) hb_E.rf
theorem sp_H_drop0 {n1 n2 : Nat} {G : hb_G} {s : hb_S} {h : ev_H} {x : Int32} (R : hb_R z sz dyn mu G n1 n2 s h) (hx : ¬ (0 ≤ x ∧ x ≤ 2)) (k : Q (some (.int 0), h)) : ev_M (mf_H_drop z) [.ref sz, .int x] h Q := by
  refine ev_M.go rfl rfl ?_
  refine ev_W.fn rfl rfl ?_
  refine ev_W.cl rfl rfl rfl rfl rfl ?_
  refine sp_isClient ?_
  refine ev_W.brT rfl rfl (zb_n0.mpr (decide_eq_false hx)) ?_
  refine ev_W.fn rfl rfl ?_
  refine ev_W.zret rfl (Or.inl rfl) ?_
  exact k
theorem sp_H_leave {n1 n2 : Nat} {G : hb_G} {s : hb_S} {h : ev_H} (R : hb_R z sz dyn mu G n1 n2 s h) (hc : c < 3) (k : ∀ (G' : hb_G) (h' : ev_H), hb_R z sz dyn mu G' (n1 + 2) (n2 + 50) (H_leave s c).1 h' → hb_E dyn G h G' h' → Q (some (.int (zb (H_leave s c).2)), h')) : ev_M (mf_H_leave z) [.ref sz, .int (nI c)] h Q := by
  unfold H_leave at k
  refine ev_M.go rfl rfl ?_
  refine ev_W.fn rfl rfl ?_
  refine ev_W.fn rfl rfl ?_
  refine ev_W.clR rfl rfl rfl rfl rfl R.o0 ?_
  refine sp_H_canSend R hc ?_
  refine ev_W.br rfl rfl (fun h1 => ?_) (fun h1 => ?_)
  · have h1 : cs s c = true := zb_1.mp h1
    rw [if_pos h1] at k
    refine ev_W.fn rfl rfl ?_
    refine ev_W.obj rfl R.o0 rfl ?_
    refine ev_W.fn rfl rfl ?_
    refine ev_W.lk R hc rfl ?_
    refine ev_W.obj rfl (R.o1 hc) rfl ?_
    refine ev_W.nw R rfl (fun G1 u1 a1 R1 E1 na1 => ?_)
    refine ev_W.fn rfl rfl ?_
    refine ev_W.fn rfl rfl ?_
    refine ev_W.fn rfl rfl ?_
    refine ev_W.fn rfl rfl ?_
    refine ev_W.clI rfl rfl rfl rfl rfl ?_
    refine sp_P_new R1 na1 (fun G2 u2 R2 E2 hp2 => ?_)
    refine ev_W.clR rfl rfl rfl rfl rfl (R2.lo (nl_lt (by omega))) ?_
    refine R2.nadd (by omega) (by have := (of_decide_eq_true h1).2; omega) hp2 (fun G3 u3 R3 E3 => ?_)
    have hp2 := E3.pk R2 hp2
    refine ev_W.fn rfl rfl ?_
    refine ev_W.fn rfl rfl ?_
    refine ev_W.obj rfl R3.o0 rfl ?_
    refine ev_W.fn rfl rfl ?_
    refine ev_W.lk R3 hc rfl ?_
    refine ev_W.fn rfl rfl ?_
    refine ev_W.w0 R3 hc rfl (fun u4 R4 E4 => ?_)
    have hp2 := E4.pk R3 hp2
    refine ev_W.fn rfl rfl ?_
    refine ev_W.zret rfl (Or.inr rfl) ?_
    exact k _ _ (R4.up (by omega) (by omega)) (E1.tr (E2.tr (E3.tr E4)))
  · have h1 : cs s c = false := zb_n0.mp (Decidable.not_not.mp h1)
    rw [if_neg (fun q => by rw [h1] at q; cases q)] at k
    refine ev_W.fn rfl rfl ?_
    refine ev_W.zret rfl (Or.inl rfl) ?_
    exact k _ _ (R.up (by omega) (by omega)) hb_E.rf
theorem sp_H_leave0 {n1 n2 : Nat} {G : hb_G} {s : hb_S} {h : ev_H} {x : Int32} (R : hb_R z sz dyn mu G n1 n2 s h) (hx : ¬ (0 ≤ x ∧ x ≤ 2)) (k : Q (some (.int 0), h)) : ev_M (mf_H_leave z) [.ref sz, .int x] h Q := by
  refine ev_M.go rfl rfl ?_
  refine ev_W.fn rfl rfl ?_
  refine ev_W.fn rfl rfl ?_
  refine ev_W.clR rfl rfl rfl rfl rfl R.o0 ?_
  refine sp_H_canSend0 R hx ?_
  refine ev_W.fn rfl rfl ?_
  refine ev_W.fn rfl rfl ?_
  refine ev_W.zret rfl (Or.inl rfl) ?_
  exact k
theorem sp_H_ping {n1 n2 : Nat} {G : hb_G} {s : hb_S} {h : ev_H} (R : hb_R z sz dyn mu G n1 n2 s h) (hc : c < 3) (k : ∀ (G' : hb_G) (h' : ev_H), hb_R z sz dyn mu G' (n1 + 2) (n2 + 50) (H_ping s c).1 h' → hb_E dyn G h G' h' → Q (some (.int (zb (H_ping s c).2)), h')) : ev_M (mf_H_ping z) [.ref sz, .int (nI c)] h Q := by
  unfold H_ping at k
  refine ev_M.go rfl rfl ?_
  refine ev_W.fn rfl rfl ?_
  refine ev_W.fn rfl rfl ?_
  refine ev_W.clR rfl rfl rfl rfl rfl R.o0 ?_
  refine sp_H_canSend R hc ?_
  refine ev_W.br rfl rfl (fun h1 => ?_) (fun h1 => ?_)
  · have h1 : cs s c = true := zb_1.mp h1
    rw [if_pos h1] at k
    refine ev_W.fn rfl rfl ?_
    refine ev_W.obj rfl R.o0 rfl ?_
    refine ev_W.fn rfl rfl ?_
    refine ev_W.lk R hc rfl ?_
    refine ev_W.obj rfl (R.o1 hc) rfl ?_
    refine ev_W.nw R rfl (fun G1 u1 a1 R1 E1 na1 => ?_)
    refine ev_W.fn rfl rfl ?_
    refine ev_W.fn rfl rfl ?_
    refine ev_W.fn rfl rfl ?_
    refine ev_W.fn rfl rfl ?_
    refine ev_W.clI rfl rfl rfl rfl rfl ?_
    refine sp_P_new R1 na1 (fun G2 u2 R2 E2 hp2 => ?_)
    refine ev_W.clR rfl rfl rfl rfl rfl (R2.lo (nl_lt (by omega))) ?_
    refine R2.nadd (by omega) (by have := (of_decide_eq_true h1).2; omega) hp2 (fun G3 u3 R3 E3 => ?_)
    have hp2 := E3.pk R2 hp2
    refine ev_W.fn rfl rfl ?_
    refine ev_W.fn rfl rfl ?_
    refine ev_W.zret rfl (Or.inr rfl) ?_
    exact k _ _ (R3.up (by omega) (by omega)) (E1.tr (E2.tr E3))
  · have h1 : cs s c = false := zb_n0.mp (Decidable.not_not.mp h1)
    rw [if_neg (fun q => by rw [h1] at q; cases q)] at k
    refine ev_W.fn rfl rfl ?_
    refine ev_W.zret rfl (Or.inl rfl) ?_
    exact k _ _ (R.up (by omega) (by omega)) hb_E.rf
theorem sp_H_ping0 {n1 n2 : Nat} {G : hb_G} {s : hb_S} {h : ev_H} {x : Int32} (R : hb_R z sz dyn mu G n1 n2 s h) (hx : ¬ (0 ≤ x ∧ x ≤ 2)) (k : Q (some (.int 0), h)) : ev_M (mf_H_ping z) [.ref sz, .int x] h Q := by
  refine ev_M.go rfl rfl ?_
  refine ev_W.fn rfl rfl ?_
  refine ev_W.fn rfl rfl ?_
  refine ev_W.clR rfl rfl rfl rfl rfl R.o0 ?_
  refine sp_H_canSend0 R hx ?_
  refine ev_W.fn rfl rfl ?_
  refine ev_W.fn rfl rfl ?_
  refine ev_W.zret rfl (Or.inl rfl) ?_
  exact k
theorem sp_H_sub {n1 n2 : Nat} {G : hb_G} {s : hb_S} {h : ev_H} {f : Int64} {q : Int32} {nl : Bool} (R : hb_R z sz dyn mu G n1 n2 s h) (hc : c < 3) (k : ∀ (G' : hb_G) (h' : ev_H), hb_R z sz dyn mu G' (n1 + 2) (n2 + 50) (H_sub s c f q nl).1 h' → hb_E dyn G h G' h' → Q (some (.int (zb (H_sub s c f q nl).2)), h')) : ev_M (mf_H_subscribe z) [.ref sz, .int (nI c), .long f, .int q, .int (zb nl)] h Q := by
  unfold H_sub at k
  refine ev_M.go rfl rfl ?_
  refine ev_W.fn rfl rfl ?_
  refine ev_W.cl rfl rfl rfl rfl rfl ?_
  refine sp_T_read ?_
  refine ev_W.fn rfl rfl ?_
  refine ev_W.fn rfl rfl ?_
  refine ev_W.fn rfl rfl ?_
  refine ev_W.clR rfl rfl rfl rfl rfl R.o0 ?_
  refine sp_H_canSend R hc ?_
  refine ev_W.br rfl rfl (fun h1 => ?_) (fun h1 => ?_)
  · rw [if_neg (fun q => by rw [zb_n0.mp h1] at q; cases q.1)] at k
    refine ev_W.fn rfl rfl ?_
    refine ev_W.zret rfl (Or.inl rfl) ?_
    exact k _ _ (R.up (by omega) (by omega)) hb_E.rf
  · have h1 : cs s c = true := zb_1.mp h1
    refine ev_W.fn rfl rfl ?_
    refine ev_W.cl rfl rfl rfl rfl rfl ?_
    refine sp_T_isFilter ?_
    refine ev_W.br rfl rfl (fun h2 => ?_) (fun h2 => ?_)
    · rw [if_neg (fun q => by rw [zb_n0.mp h2] at q; cases q.2.1)] at k
      refine ev_W.fn rfl rfl ?_
      refine ev_W.zret rfl (Or.inl rfl) ?_
      exact k _ _ (R.up (by omega) (by omega)) hb_E.rf
    · refine ev_W.fn rfl rfl ?_
      refine ev_W.fn rfl rfl ?_
      refine ev_W.fn rfl rfl ?_
      refine ev_W.cl rfl rfl rfl rfl rfl ?_
      refine sp_isWithin ?_
      refine ev_W.br rfl rfl (fun h3 => ?_) (fun h3 => ?_)
      · rw [if_pos ⟨h1, zb_1.mp h2, of_decide_eq_true (zb_1.mp h3)⟩] at k
        refine ev_W.fn rfl rfl ?_
        refine ev_W.obj rfl R.o0 rfl ?_
        refine ev_W.fn rfl rfl ?_
        refine ev_W.lk R hc rfl ?_
        refine ev_W.obj rfl (R.o1 hc) rfl ?_
        refine ev_W.fn rfl rfl ?_
        refine ev_W.fn rfl rfl ?_
        refine ev_W.fn rfl rfl ?_
        refine ev_W.fn rfl rfl ?_
        refine ev_W.cl rfl rfl rfl rfl rfl ?_
        refine sp_P_ofF R (fun G1 u1 a1 R1 E1 hp1 => ?_)
        refine ev_W.clR rfl rfl rfl rfl rfl (R1.lo (nl_lt (by omega))) ?_
        refine R1.nadd (by omega) (by have := (of_decide_eq_true h1).2; omega) hp1 (fun G2 u2 R2 E2 => ?_)
        have hp1 := E2.pk R1 hp1
        refine ev_W.fn rfl rfl ?_
        refine ev_W.fn rfl rfl ?_
        refine ev_W.zret rfl (Or.inr rfl) ?_
        exact k _ _ (R2.up (by omega) (by omega)) (E1.tr E2)
      · rw [if_neg (fun q => of_decide_eq_false (zb_n0.mp (Decidable.not_not.mp h3)) q.2.2)] at k
        refine ev_W.fn rfl rfl ?_
        refine ev_W.zret rfl (Or.inl rfl) ?_
        exact k _ _ (R.up (by omega) (by omega)) hb_E.rf
theorem sp_H_sub0 {n1 n2 : Nat} {G : hb_G} {s : hb_S} {h : ev_H} {f : Int64} {q : Int32} {nl : Bool} {x : Int32} (R : hb_R z sz dyn mu G n1 n2 s h) (hx : ¬ (0 ≤ x ∧ x ≤ 2)) (k : Q (some (.int 0), h)) : ev_M (mf_H_subscribe z) [.ref sz, .int x, .long f, .int q, .int (zb nl)] h Q := by
  refine ev_M.go rfl rfl ?_
  refine ev_W.fn rfl rfl ?_
  refine ev_W.cl rfl rfl rfl rfl rfl ?_
  refine sp_T_read ?_
  refine ev_W.fn rfl rfl ?_
  refine ev_W.fn rfl rfl ?_
  refine ev_W.fn rfl rfl ?_
  refine ev_W.clR rfl rfl rfl rfl rfl R.o0 ?_
  refine sp_H_canSend0 R hx ?_
  refine ev_W.fn rfl rfl ?_
  refine ev_W.fn rfl rfl ?_
  refine ev_W.zret rfl (Or.inl rfl) ?_
  exact k
theorem sp_H_uns {n1 n2 : Nat} {G : hb_G} {s : hb_S} {h : ev_H} {f : Int64} (R : hb_R z sz dyn mu G n1 n2 s h) (hc : c < 3) (k : ∀ (G' : hb_G) (h' : ev_H), hb_R z sz dyn mu G' (n1 + 2) (n2 + 50) (H_uns s c f).1 h' → hb_E dyn G h G' h' → Q (some (.int (zb (H_uns s c f).2)), h')) : ev_M (mf_H_unsubscribe z) [.ref sz, .int (nI c), .long f] h Q := by
  unfold H_uns at k
  refine ev_M.go rfl rfl ?_
  refine ev_W.fn rfl rfl ?_
  refine ev_W.cl rfl rfl rfl rfl rfl ?_
  refine sp_T_read ?_
  refine ev_W.fn rfl rfl ?_
  refine ev_W.fn rfl rfl ?_
  refine ev_W.fn rfl rfl ?_
  refine ev_W.clR rfl rfl rfl rfl rfl R.o0 ?_
  refine sp_H_canSend R hc ?_
  refine ev_W.br rfl rfl (fun h1 => ?_) (fun h1 => ?_)
  · rw [if_neg (fun q => by rw [zb_n0.mp h1] at q; cases q.1)] at k
    refine ev_W.fn rfl rfl ?_
    refine ev_W.zret rfl (Or.inl rfl) ?_
    exact k _ _ (R.up (by omega) (by omega)) hb_E.rf
  · have h1 : cs s c = true := zb_1.mp h1
    refine ev_W.fn rfl rfl ?_
    refine ev_W.cl rfl rfl rfl rfl rfl ?_
    refine sp_T_isFilter ?_
    refine ev_W.br rfl rfl (fun h2 => ?_) (fun h2 => ?_)
    · rw [if_pos ⟨h1, zb_1.mp h2⟩] at k
      refine ev_W.fn rfl rfl ?_
      refine ev_W.obj rfl R.o0 rfl ?_
      refine ev_W.fn rfl rfl ?_
      refine ev_W.lk R hc rfl ?_
      refine ev_W.obj rfl (R.o1 hc) rfl ?_
      refine ev_W.fn rfl rfl ?_
      refine ev_W.fn rfl rfl ?_
      refine ev_W.fn rfl rfl ?_
      refine ev_W.fn rfl rfl ?_
      refine ev_W.cl rfl rfl rfl rfl rfl ?_
      refine sp_P_ofF (nl := false) R (fun G1 u1 a1 R1 E1 hp1 => ?_)
      refine ev_W.clR rfl rfl rfl rfl rfl (R1.lo (nl_lt (by omega))) ?_
      refine R1.nadd (by omega) (by have := (of_decide_eq_true h1).2; omega) hp1 (fun G2 u2 R2 E2 => ?_)
      have hp1 := E2.pk R1 hp1
      refine ev_W.fn rfl rfl ?_
      refine ev_W.fn rfl rfl ?_
      refine ev_W.zret rfl (Or.inr rfl) ?_
      exact k _ _ (R2.up (by omega) (by omega)) (E1.tr E2)
    · rw [if_neg (fun q => by rw [zb_n0.mp (Decidable.not_not.mp h2)] at q; cases q.2)] at k
      refine ev_W.fn rfl rfl ?_
      refine ev_W.zret rfl (Or.inl rfl) ?_
      exact k _ _ (R.up (by omega) (by omega)) hb_E.rf
theorem sp_H_uns0 {n1 n2 : Nat} {G : hb_G} {s : hb_S} {h : ev_H} {f : Int64} {x : Int32} (R : hb_R z sz dyn mu G n1 n2 s h) (hx : ¬ (0 ≤ x ∧ x ≤ 2)) (k : Q (some (.int 0), h)) : ev_M (mf_H_unsubscribe z) [.ref sz, .int x, .long f] h Q := by
  refine ev_M.go rfl rfl ?_
  refine ev_W.fn rfl rfl ?_
  refine ev_W.cl rfl rfl rfl rfl rfl ?_
  refine sp_T_read ?_
  refine ev_W.fn rfl rfl ?_
  refine ev_W.fn rfl rfl ?_
  refine ev_W.fn rfl rfl ?_
  refine ev_W.clR rfl rfl rfl rfl rfl R.o0 ?_
  refine sp_H_canSend0 R hx ?_
  refine ev_W.fn rfl rfl ?_
  refine ev_W.fn rfl rfl ?_
  refine ev_W.zret rfl (Or.inl rfl) ?_
  exact k
theorem sp_H_pub {n1 n2 : Nat} {G : hb_G} {s : hb_S} {h : ev_H} {t : Int64} {v q : Int32} {r : Bool} (R : hb_R z sz dyn mu G n1 n2 s h) (hc : c < 3) (k : ∀ (G' : hb_G) (h' : ev_H), hb_R z sz dyn mu G' (n1 + 7) (n2 + 147) (H_pub s c t v q r).1 h' → hb_E dyn G h G' h' → Q (some (.int (zb (H_pub s c t v q r).2)), h')) : ev_M (mf_H_publish z) [.ref sz, .int (nI c), .long t, .int v, .int q, .int (zb r)] h Q := by
  unfold H_pub at k
  refine ev_M.go rfl rfl ?_
  refine ev_W.fn rfl rfl ?_
  refine ev_W.cl rfl rfl rfl rfl rfl ?_
  refine sp_T_read ?_
  refine ev_W.fn rfl rfl ?_
  refine ev_W.fn rfl rfl ?_
  refine ev_W.cl rfl rfl rfl rfl rfl ?_
  refine sp_isClient ?_
  refine ev_W.brF rfl rfl (zb_1.mpr (decide_eq_true (ncl hc))) ?_
  refine ev_W.fn rfl rfl ?_
  refine ev_W.cl rfl rfl rfl rfl rfl ?_
  refine sp_T_isTopic ?_
  refine ev_W.br rfl rfl (fun h1 => ?_) (fun h1 => ?_)
  · rw [if_neg (fun q => by rw [zb_n0.mp h1] at q; cases q.1)] at k
    refine ev_W.fn rfl rfl ?_
    refine ev_W.zret rfl (Or.inl rfl) ?_
    exact k _ _ (R.up (by omega) (by omega)) hb_E.rf
  · refine ev_W.fn rfl rfl ?_
    refine ev_W.fn rfl rfl ?_
    refine ev_W.fn rfl rfl ?_
    refine ev_W.cl rfl rfl rfl rfl rfl ?_
    refine sp_isWithin ?_
    refine ev_W.br rfl rfl (fun h2 => ?_) (fun h2 => ?_)
    · rw [if_pos ⟨zb_1.mp h1, of_decide_eq_true (zb_1.mp h2)⟩] at k
      refine ev_W.fn rfl rfl ?_
      refine ev_W.br rfl rfl (fun h3 => ?_) (fun h3 => ?_)
      · rw [if_neg h3] at k
        refine ev_W.fn rfl rfl ?_
        refine ev_W.fn rfl rfl ?_
        refine ev_W.clR rfl rfl rfl rfl rfl R.o0 ?_
        refine sp_H_canKeep R hc ?_
        refine ev_W.br rfl rfl (fun h4 => ?_) (fun h4 => ?_)
        · have h4 : ckp s c = true := zb_1.mp h4
          rw [if_pos h4] at k
          refine ev_W.nw R rfl (fun G1 u1 a1 R1 E1 na1 => ?_)
          refine ev_W.fn rfl rfl ?_
          refine ev_W.fn rfl rfl ?_
          refine ev_W.fn rfl rfl ?_
          refine ev_W.fn rfl rfl ?_
          refine ev_W.fn rfl rfl ?_
          refine ev_W.clI rfl rfl rfl rfl rfl ?_
          refine sp_M_new R1 na1 (fun G2 u2 R2 E2 hp2 => ?_)
          refine ev_W.fn rfl rfl ?_
          refine ev_W.fn rfl rfl ?_
          refine ev_W.brT rfl rfl h3 ?_
          refine ev_W.fn rfl rfl ?_
          refine ev_W.obj rfl R2.o0 rfl ?_
          refine ev_W.fn rfl rfl ?_
          refine ev_W.ck R2 hc rfl ?_
          refine ev_W.fn rfl rfl ?_
          refine ev_W.clR rfl rfl rfl rfl rfl (R2.o3 hc) ?_
          refine sp_C_keep R2 hc hp2 (by have := (of_decide_eq_true h4).1; omega) (by have := (of_decide_eq_true h4).2; omega) (fun G3 u3 R3 E3 => ?_)
          have hp2 := E3.ms R2 hp2
          refine ev_W.fn rfl rfl ?_
          refine ev_W.zret rfl (Or.inr rfl) ?_
          exact k _ _ (R3.up (by omega) (by omega)) (E1.tr (E2.tr E3))
        · rw [if_neg (fun q => by rw [zb_n0.mp (Decidable.not_not.mp h4)] at q; cases q)] at k
          refine ev_W.fn rfl rfl ?_
          refine ev_W.zret rfl (Or.inl rfl) ?_
          exact k _ _ (R.up (by omega) (by omega)) hb_E.rf
      · have h3 := Decidable.not_not.mp h3
        rw [if_pos h3] at k
        refine ev_W.fn rfl rfl ?_
        refine ev_W.fn rfl rfl ?_
        refine ev_W.clR rfl rfl rfl rfl rfl R.o0 ?_
        refine sp_H_canSend R hc ?_
        refine ev_W.br rfl rfl (fun h4 => ?_) (fun h4 => ?_)
        · have h4 : cs s c = true := zb_1.mp h4
          rw [if_pos h4] at k
          refine ev_W.nw R rfl (fun G4 u4 a4 R4 E4 na4 => ?_)
          refine ev_W.fn rfl rfl ?_
          refine ev_W.fn rfl rfl ?_
          refine ev_W.fn rfl rfl ?_
          refine ev_W.fn rfl rfl ?_
          refine ev_W.fn rfl rfl ?_
          refine ev_W.clI rfl rfl rfl rfl rfl ?_
          refine sp_M_new R4 na4 (fun G5 u5 R5 E5 hp5 => ?_)
          refine ev_W.fn rfl rfl ?_
          refine ev_W.fn rfl rfl ?_
          refine ev_W.brF rfl rfl (fun q => q h3) ?_
          refine ev_W.fn rfl rfl ?_
          refine ev_W.obj rfl R5.o0 rfl ?_
          refine ev_W.fn rfl rfl ?_
          refine ev_W.lk R5 hc rfl ?_
          refine ev_W.obj rfl (R5.o1 hc) rfl ?_
          refine ev_W.fn rfl rfl ?_
          refine ev_W.fn rfl rfl ?_
          refine ev_W.fn rfl rfl ?_
          refine ev_W.cl rfl rfl rfl rfl rfl ?_
          refine sp_P_ofM (ag := false) R5 hp5 (fun G6 u6 a6 R6 E6 hp6 => ?_)
          have hp5 := E6.ms R5 hp5
          refine ev_W.clR rfl rfl rfl rfl rfl (R6.lo (nl_lt (by omega))) ?_
          refine R6.nadd (by omega) (by have := (of_decide_eq_true h4).2; omega) hp6 (fun G7 u7 R7 E7 => ?_)
          have hp5 := E7.ms R6 hp5
          have hp6 := E7.pk R6 hp6
          refine ev_W.fn rfl rfl ?_
          refine ev_W.fn rfl rfl ?_
          refine ev_W.fn rfl rfl ?_
          refine ev_W.zret rfl (Or.inr rfl) ?_
          exact k _ _ (R7.up (by omega) (by omega)) (E4.tr (E5.tr (E6.tr E7)))
        · rw [if_neg (fun q => by rw [zb_n0.mp (Decidable.not_not.mp h4)] at q; cases q)] at k
          refine ev_W.fn rfl rfl ?_
          refine ev_W.fn rfl rfl ?_
          refine ev_W.zret rfl (Or.inl rfl) ?_
          exact k _ _ (R.up (by omega) (by omega)) hb_E.rf
    · rw [if_neg (fun q => of_decide_eq_false (zb_n0.mp (Decidable.not_not.mp h2)) q.2)] at k
      refine ev_W.fn rfl rfl ?_
      refine ev_W.zret rfl (Or.inl rfl) ?_
      exact k _ _ (R.up (by omega) (by omega)) hb_E.rf
theorem sp_H_pub0 {n1 n2 : Nat} {G : hb_G} {s : hb_S} {h : ev_H} {t : Int64} {v q : Int32} {r : Bool} {x : Int32} (R : hb_R z sz dyn mu G n1 n2 s h) (hx : ¬ (0 ≤ x ∧ x ≤ 2)) (k : Q (some (.int 0), h)) : ev_M (mf_H_publish z) [.ref sz, .int x, .long t, .int v, .int q, .int (zb r)] h Q := by
  refine ev_M.go rfl rfl ?_
  refine ev_W.fn rfl rfl ?_
  refine ev_W.cl rfl rfl rfl rfl rfl ?_
  refine sp_T_read ?_
  refine ev_W.fn rfl rfl ?_
  refine ev_W.fn rfl rfl ?_
  refine ev_W.cl rfl rfl rfl rfl rfl ?_
  refine sp_isClient ?_
  refine ev_W.brT rfl rfl (zb_n0.mpr (decide_eq_false hx)) ?_
  refine ev_W.fn rfl rfl ?_
  refine ev_W.zret rfl (Or.inl rfl) ?_
  exact k
theorem sp_L_rowT {n1 n2 : Nat} {G : hb_G} {s : hb_S} {h : ev_H} (R : hb_R z sz dyn mu G n1 n2 s h) (hc : c < 3) (k : Q (some (.ref (sz + hb_ro (2 * c))), h)) : ev_M (mf_L_row z) [.ref (sz + (3 + 7 * c)), .int (zb true)] h Q := by
  refine ev_M.go rfl rfl ?_
  refine ev_W.fn rfl rfl ?_
  refine ev_W.fn rfl rfl ?_
  refine ev_W.fn rfl rfl ?_
  refine ev_W.obj rfl (R.o1 hc) rfl ?_
  refine ev_W.fn rfl rfl ?_
  refine ev_W.ret rfl rfl ?_
  exact k
theorem sp_L_rowF {n1 n2 : Nat} {G : hb_G} {s : hb_S} {h : ev_H} (R : hb_R z sz dyn mu G n1 n2 s h) (hc : c < 3) (k : Q (some (.ref (sz + hb_ro (2 * c + 1))), h)) : ev_M (mf_L_row z) [.ref (sz + (3 + 7 * c)), .int (zb false)] h Q := by
  refine ev_M.go rfl rfl ?_
  refine ev_W.fn rfl rfl ?_
  refine ev_W.fn rfl rfl ?_
  refine ev_W.fn rfl rfl ?_
  refine ev_W.obj rfl (R.o1 hc) rfl ?_
  refine ev_W.ret rfl rfl ?_
  exact k
theorem sp_H_dlv0 {n1 n2 : Nat} {G : hb_G} {s : hb_S} {h : ev_H} {x : Int32} {b : Bool} (R : hb_R z sz dyn mu G n1 n2 s h) (hx : ¬ (0 ≤ x ∧ x ≤ 2)) (k : Q (some (.int 0), h)) : ev_M (mf_H_deliver z) [.ref sz, .int x, .int (zb b)] h Q := by
  refine ev_M.go rfl rfl ?_
  refine ev_W.fn rfl rfl ?_
  refine ev_W.cl rfl rfl rfl rfl rfl ?_
  refine sp_isClient ?_
  refine ev_W.brT rfl rfl (zb_n0.mpr (decide_eq_false hx)) ?_
  refine ev_W.fn rfl rfl ?_
  refine ev_W.ret rfl rfl ?_
  exact k
theorem sp_H_dn {n1 n2 : Nat} {G : hb_G} {s : hb_S} {h : ev_H} (R : hb_R z sz dyn mu G n1 n2 s h) (hc : c < 3) (hty : ∀ p, p ∈ sN s (2 * c + 1) → (p.1 = 2 ∨ p.1 = 3 ∨ p.1 = 6 ∨ p.1 = 4 ∨ p.1 = 5 ∨ p.1 = 7 ∨ p.1 = 9 ∨ p.1 = 11 ∨ p.1 = 13)) (hl : (sP s c).length ≤ 4) (k : ∀ (G' : hb_G) (h' : ev_H), hb_R z sz dyn mu G' (n1 + 12) (n2 + 300) (H_dn s c).1 h' → hb_E dyn G h G' h' → Q (some (.int (H_dn s c).2), h')) : ev_M (mf_H_deliver z) [.ref sz, .int (nI c), .int (zb false)] h Q := by
  have hn := R.nlen (l := 2 * c) (by omega)
  unfold H_dn at k
  refine ev_M.go rfl rfl ?_
  cases hq : sN s (2 * c + 1) with
  | nil =>
    rw [hq] at k
    dsimp only at k
    refine ev_W.fn rfl rfl ?_
    refine ev_W.cl rfl rfl rfl rfl rfl ?_
    refine sp_isClient ?_
    refine ev_W.brF rfl rfl (zb_1.mpr (decide_eq_true (ncl hc))) ?_
    refine ev_W.fn rfl rfl ?_
    refine ev_W.obj rfl R.o0 rfl ?_
    refine ev_W.fn rfl rfl ?_
    refine ev_W.lk R hc rfl ?_
    refine ev_W.fn rfl rfl ?_
    refine ev_W.clR rfl rfl rfl rfl rfl (R.o1 hc) ?_
    refine sp_L_rowF R hc ?_
    refine ev_W.clR rfl rfl rfl rfl rfl (R.lo (nl_lt (by omega))) ?_
    refine R.nempty (by omega) ?_
    refine ev_W.brF rfl rfl (by rw [hq]; decide) ?_
    refine ev_W.fn rfl rfl ?_
    refine ev_W.ret rfl rfl ?_
    exact k _ _ (R.up (by omega) (by omega)) hb_E.rf
  | cons p r =>
    rw [hq] at k
    dsimp only at k
    have h0 : (sN s (2 * c + 1))[0]? = some p := by rw [hq]; rfl
    have h1 : (sN s (2 * c + 1)).eraseIdx 0 = r := by rw [hq]; rfl
    have hp1 := hty p (by rw [hq]; exact List.mem_cons_self)
    obtain ⟨ty, id, va, tx, qu, ag, mr, wi, ke, wv⟩ := p
    refine ev_W.fn rfl rfl ?_
    refine ev_W.cl rfl rfl rfl rfl rfl ?_
    refine sp_isClient ?_
    refine ev_W.brF rfl rfl (zb_1.mpr (decide_eq_true (ncl hc))) ?_
    refine ev_W.fn rfl rfl ?_
    refine ev_W.obj rfl R.o0 rfl ?_
    refine ev_W.fn rfl rfl ?_
    refine ev_W.lk R hc rfl ?_
    refine ev_W.fn rfl rfl ?_
    refine ev_W.clR rfl rfl rfl rfl rfl (R.o1 hc) ?_
    refine sp_L_rowF R hc ?_
    refine ev_W.clR rfl rfl rfl rfl rfl (R.lo (nl_lt (by omega))) ?_
    refine R.nempty (by omega) ?_
    refine ev_W.brT rfl rfl (by rw [hq]; rfl) ?_
    refine ev_W.fn rfl rfl ?_
    refine ev_W.fn rfl rfl ?_
    refine ev_W.fn rfl rfl ?_
    refine ev_W.obj rfl R.o0 rfl ?_
    refine ev_W.fn rfl rfl ?_
    refine ev_W.lk R hc rfl ?_
    refine ev_W.obj rfl (R.o1 hc) rfl ?_
    refine ev_W.fn rfl rfl ?_
    refine ev_W.br rfl rfl (fun h2 => ?_) (fun h2 => ?_)
    · refine ev_W.fn rfl rfl ?_
      refine ev_W.fn rfl rfl ?_
      refine ev_W.fn rfl rfl ?_
      refine ev_W.fn rfl rfl ?_
      refine ev_W.fn rfl rfl ?_
      refine ev_W.obj rfl R.o0 rfl ?_
      refine ev_W.fn rfl rfl ?_
      refine ev_W.lk R hc rfl ?_
      refine ev_W.fn rfl rfl ?_
      refine ev_W.fn rfl rfl ?_
      refine ev_W.fn rfl rfl ?_
      refine ev_W.fn rfl rfl ?_
      refine ev_W.clR rfl rfl rfl rfl rfl (R.o1 hc) ?_
      refine sp_L_rowT R hc ?_
      refine ev_W.clR rfl rfl rfl rfl rfl (R.lo (nl_lt (by omega))) ?_
      refine R.nsize (by omega) ?_
      refine ev_W.fn rfl rfl ?_
      refine ev_W.br rfl rfl (fun h3 => ?_) (fun h3 => ?_)
      · have h3 : (sN s (2 * c)).length < 12 := (nI_ltI (b := 12) (by omega) (by decide)).mp h3
        rw [if_pos ⟨h2, h3⟩] at k
        refine ev_W.fn rfl rfl ?_
        refine ev_W.obj rfl R.o0 rfl ?_
        refine ev_W.fn rfl rfl ?_
        refine ev_W.lk R hc rfl ?_
        refine ev_W.fn rfl rfl ?_
        refine ev_W.clR rfl rfl rfl rfl rfl (R.o1 hc) ?_
        refine sp_L_rowF R hc ?_
        refine ev_W.fn rfl rfl ?_
        refine ev_W.clR rfl rfl rfl rfl rfl (R.lo (nl_lt (by omega))) ?_
        refine R.nrem (by omega) h0 (fun G1 u1 a1 hp R1 E1 => ?_)
        rw [h1] at R1
        refine ev_W.cast rfl hp.1 ?_
        refine ev_W.fn rfl rfl ?_
        refine ev_W.fn rfl rfl ?_
        refine ev_W.fn rfl rfl ?_
        refine ev_W.fn rfl rfl ?_
        refine ev_W.obj rfl R1.o0 rfl ?_
        refine ev_W.fn rfl rfl ?_
        refine ev_W.ck R1 hc rfl ?_
        refine ev_W.fn rfl rfl ?_
        refine ev_W.clR rfl rfl rfl rfl rfl (R1.o3 hc) ?_
        refine sp_C_receive R1 hc hp hp1 (by simp [st_a]; omega) hl (fun G2 u2 R2 E2 => ?_)
        have hp := E2.pk R1 hp
        refine ev_W.fn rfl rfl ?_
        refine ev_W.obj rfl hp.1 rfl ?_
        refine ev_W.ret rfl rfl ?_
        exact k _ _ (R2.up (by omega) (by omega)) (E1.tr E2)
      · have h3 : ¬ (sN s (2 * c)).length < 12 := fun q => h3 (nI_lt (b := 12) q (by decide))
        rw [if_neg (fun q => h3 q.2)] at k
        refine ev_W.fn rfl rfl ?_
        refine ev_W.ret rfl rfl ?_
        exact k _ _ (R.up (by omega) (by omega)) hb_E.rf
    · rw [if_neg (fun q => q.1 (Decidable.not_not.mp h2))] at k
      refine ev_W.fn rfl rfl ?_
      refine ev_W.fn rfl rfl ?_
      refine ev_W.fn rfl rfl ?_
      refine ev_W.fn rfl rfl ?_
      refine ev_W.fn rfl rfl ?_
      refine ev_W.fn rfl rfl ?_
      refine ev_W.ret rfl rfl ?_
      exact k _ _ (R.up (by omega) (by omega)) hb_E.rf
theorem sp_H_up {n1 n2 : Nat} {G : hb_G} {s : hb_S} {h : ev_H} (R : hb_R z sz dyn mu G n1 n2 s h) (hc : c < 3) (hty : ∀ p, p ∈ sN s (2 * c) → (p.1 = 1 ∨ p.1 = 3 ∨ p.1 = 6 ∨ p.1 = 4 ∨ p.1 = 5 ∨ p.1 = 7 ∨ p.1 = 8 ∨ p.1 = 10 ∨ p.1 = 12 ∨ p.1 = 14) ∧ (p.1 = 1 → p.2.2.2.2.2.2.2.1 ≤ 3)) (hb : ∀ j, j < 3 → ba 13 s j ∧ iA s j) (k : ∀ (G' : hb_G) (h' : ev_H), hb_R z sz dyn mu G' (n1 + 136) (n2 + 2532) (H_up s c).1 h' → hb_E dyn G h G' h' → Q (some (.int (H_up s c).2), h')) : ev_M (mf_H_deliver z) [.ref sz, .int (nI c), .int (zb true)] h Q := by
  have hn := R.nlen (l := 2 * c + 1) (by omega)
  unfold H_up H_upF at k
  refine ev_M.go rfl rfl ?_
  cases hq : sN s (2 * c) with
  | nil =>
    rw [hq] at k
    dsimp only at k
    refine ev_W.fn rfl rfl ?_
    refine ev_W.cl rfl rfl rfl rfl rfl ?_
    refine sp_isClient ?_
    refine ev_W.brF rfl rfl (zb_1.mpr (decide_eq_true (ncl hc))) ?_
    refine ev_W.fn rfl rfl ?_
    refine ev_W.obj rfl R.o0 rfl ?_
    refine ev_W.fn rfl rfl ?_
    refine ev_W.lk R hc rfl ?_
    refine ev_W.fn rfl rfl ?_
    refine ev_W.clR rfl rfl rfl rfl rfl (R.o1 hc) ?_
    refine sp_L_rowT R hc ?_
    refine ev_W.clR rfl rfl rfl rfl rfl (R.lo (nl_lt (by omega))) ?_
    refine R.nempty (by omega) ?_
    refine ev_W.brF rfl rfl (by rw [hq]; decide) ?_
    refine ev_W.fn rfl rfl ?_
    refine ev_W.ret rfl rfl ?_
    exact k _ _ (R.up (by omega) (by omega)) hb_E.rf
  | cons p r =>
    rw [hq] at k
    dsimp only at k
    have h0 : (sN s (2 * c))[0]? = some p := by rw [hq]; rfl
    have h1 : (sN s (2 * c)).eraseIdx 0 = r := by rw [hq]; rfl
    have hp1 := hty p (by rw [hq]; exact List.mem_cons_self)
    have hb2 : ∀ j, j < 3 → ba 13 (tI (tN s (2 * c) r) 14 0 0) j ∧ iA (tI (tN s (2 * c) r) 14 0 0) j := fun j hj => by
      have := hb j hj
      unfold ba iA at *
      have e : sN (tI (tN s (2 * c) r) 14 0 0) (2 * j + 1) = sN s (2 * j + 1) := by
        show sN (tN s (2 * c) r) (2 * j + 1) = _
        simp [st_a]; omega
      rw [e]
      exact this
    have e14 : sI (tN s (2 * c) r) 14 0 = sI s 14 0 := rfl
    rw [e14] at k
    have ed : sN (tI (tN s (2 * c) r) 14 0 0) (2 * c + 1) = sN s (2 * c + 1) := by
      show sN (tN s (2 * c) r) (2 * c + 1) = _
      simp [st_a]
    obtain ⟨ty, id, va, tx, qu, ag, mr, wi, ke, wv⟩ := p
    refine ev_W.fn rfl rfl ?_
    refine ev_W.cl rfl rfl rfl rfl rfl ?_
    refine sp_isClient ?_
    refine ev_W.brF rfl rfl (zb_1.mpr (decide_eq_true (ncl hc))) ?_
    refine ev_W.fn rfl rfl ?_
    refine ev_W.obj rfl R.o0 rfl ?_
    refine ev_W.fn rfl rfl ?_
    refine ev_W.lk R hc rfl ?_
    refine ev_W.fn rfl rfl ?_
    refine ev_W.clR rfl rfl rfl rfl rfl (R.o1 hc) ?_
    refine sp_L_rowT R hc ?_
    refine ev_W.clR rfl rfl rfl rfl rfl (R.lo (nl_lt (by omega))) ?_
    refine R.nempty (by omega) ?_
    refine ev_W.brT rfl rfl (by rw [hq]; rfl) ?_
    refine ev_W.fn rfl rfl ?_
    refine ev_W.fn rfl rfl ?_
    refine ev_W.fn rfl rfl ?_
    refine ev_W.fn rfl rfl ?_
    refine ev_W.fn rfl rfl ?_
    refine ev_W.fn rfl rfl ?_
    refine ev_W.fn rfl rfl ?_
    refine ev_W.obj rfl R.o0 rfl ?_
    refine ev_W.fn rfl rfl ?_
    refine ev_W.lk R hc rfl ?_
    refine ev_W.fn rfl rfl ?_
    refine ev_W.fn rfl rfl ?_
    refine ev_W.fn rfl rfl ?_
    refine ev_W.clR rfl rfl rfl rfl rfl (R.o1 hc) ?_
    refine sp_L_rowF R hc ?_
    refine ev_W.clR rfl rfl rfl rfl rfl (R.lo (nl_lt (by omega))) ?_
    refine R.nsize (by omega) ?_
    refine ev_W.fn rfl rfl ?_
    refine ev_W.br rfl rfl (fun h3 => ?_) (fun h3 => ?_)
    · have h3 : (sN s (2 * c + 1)).length < 12 := (nI_ltI (b := 12) (by omega) (by decide)).mp h3
      rw [if_pos h3] at k
      refine ev_W.fn rfl rfl ?_
      refine ev_W.obj rfl R.o0 rfl ?_
      refine ev_W.fn rfl rfl ?_
      refine ev_W.lk R hc rfl ?_
      refine ev_W.fn rfl rfl ?_
      refine ev_W.clR rfl rfl rfl rfl rfl (R.o1 hc) ?_
      refine sp_L_rowT R hc ?_
      refine ev_W.fn rfl rfl ?_
      refine ev_W.clR rfl rfl rfl rfl rfl (R.lo (nl_lt (by omega))) ?_
      refine R.nrem (by omega) h0 (fun G1 u1 a1 hp R1 E1 => ?_)
      rw [h1] at R1
      refine ev_W.cast rfl hp.1 ?_
      refine ev_W.fn rfl rfl ?_
      refine ev_W.fn rfl rfl ?_
      refine ev_W.fn rfl rfl ?_
      refine ev_W.fn rfl rfl ?_
      refine ev_W.obj rfl R1.o0 rfl ?_
      refine ev_W.clR rfl rfl rfl rfl rfl R1.o5 ?_
      refine sp_B_takeFailure R1 (fun G2 u2 R2 E2 => ?_)
      have hp := E2.pk R1 hp
      refine ev_W.fn rfl rfl ?_
      refine ev_W.fn rfl rfl ?_
      refine ev_W.fn rfl rfl ?_
      refine ev_W.br rfl rfl (fun h4 => ?_) (fun h4 => ?_)
      · have h4 : sI s 14 0 = 1 := h4
        rw [if_pos h4] at k
        refine ev_W.fn rfl rfl ?_
        refine ev_W.br rfl rfl (fun h5 => ?_) (fun h5 => ?_)
        · have h5 : sI s 14 0 = 0 := h5
          rw [if_pos h5] at k
          refine ev_W.fn rfl rfl ?_
          refine ev_W.obj rfl hp.1 rfl ?_
          refine ev_W.ret rfl rfl ?_
          exact k _ _ (R2.up (by omega) (by omega)) (E1.tr E2)
        · have h5 : ¬ sI s 14 0 = 0 := h5
          rw [if_neg h5] at k
          refine ev_W.fn rfl rfl ?_
          refine ev_W.obj rfl R2.o0 rfl ?_
          refine ev_W.clR rfl rfl rfl rfl rfl R2.o5 ?_
          refine sp_B_breakDown R2 (fun G3 u3 R3 E3 => ?_)
          have hp := E3.pk R2 hp
          refine ev_W.fn rfl rfl ?_
          refine ev_W.obj rfl hp.1 rfl ?_
          refine ev_W.ret rfl rfl ?_
          exact k _ _ (R3.up (by omega) (by omega)) (E1.tr (E2.tr E3))
      · have h4 : ¬ sI s 14 0 = 1 := h4
        rw [if_neg h4] at k
        refine ev_W.fn rfl rfl ?_
        refine ev_W.obj rfl R2.o0 rfl ?_
        refine ev_W.fn rfl rfl ?_
        refine ev_W.fn rfl rfl ?_
        refine ev_W.clR rfl rfl rfl rfl rfl R2.o5 ?_
        refine sp_B_receive R2 hc hp hp1.1 hp1.2 hb2 (by rw [ed]; omega) (fun G4 u4 R4 E4 => ?_)
        have hp := E4.pk R2 hp
        refine ev_W.fn rfl rfl ?_
        refine ev_W.br rfl rfl (fun h5 => ?_) (fun h5 => ?_)
        · have h5 : sI s 14 0 = 0 := h5
          rw [if_pos h5] at k
          refine ev_W.fn rfl rfl ?_
          refine ev_W.obj rfl hp.1 rfl ?_
          refine ev_W.ret rfl rfl ?_
          exact k _ _ (R4.up (by omega) (by omega)) (E1.tr (E2.tr E4))
        · have h5 : ¬ sI s 14 0 = 0 := h5
          rw [if_neg h5] at k
          refine ev_W.fn rfl rfl ?_
          refine ev_W.obj rfl R4.o0 rfl ?_
          refine ev_W.clR rfl rfl rfl rfl rfl R4.o5 ?_
          refine sp_B_breakDown R4 (fun G5 u5 R5 E5 => ?_)
          have hp := E5.pk R4 hp
          refine ev_W.fn rfl rfl ?_
          refine ev_W.obj rfl hp.1 rfl ?_
          refine ev_W.ret rfl rfl ?_
          exact k _ _ (R5.up (by omega) (by omega)) (E1.tr (E2.tr (E4.tr E5)))
    · have h3 : ¬ (sN s (2 * c + 1)).length < 12 := fun q => h3 (nI_lt (b := 12) q (by decide))
      rw [if_neg h3] at k
      refine ev_W.fn rfl rfl ?_
      refine ev_W.ret rfl rfl ?_
      exact k _ _ (R.up (by omega) (by omega)) hb_E.rf
end HH
