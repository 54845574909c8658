/-! The reference's tick, deliver and the client's calls (laid by wip/whole/p99l.py). -/
section ZX1
variable {z : Nat × Nat} {m0 : Nat} {s : hb_S} {p : hb_Pk} {t : rf_S} {h : ev_H} {Q : ev_O → Prop} {c l : Nat}
theorem sp_ztk_loop {N : Nat} : ∀ (n i : Nat) (s : hb_S) (t : rf_S) (h : ev_H) (m : Nat), i + n = 3 → zR z m0 s p t h → AI (fun _ => 13) (fun _ => 19) N (fun _ => []) (fun _ => []) s → RI s → (∀ t' h', zR z m0 (M_tkF n i s m).1 p t' h' → rf_E m0 h h' → Q (some (.int (nI (M_tkF n i s m).2)), h')) → ev_W (mk_Z_tick z) (4, [some (.ref m0), some (.int (nI m)), some (.int (nI i))], [], h) Q := by
  intro n
  induction n with
  | zero =>
    intro i s t h m hi R _ _ k
    refine ev_W.fn rfl rfl ?_
    refine ev_W.fn rfl rfl ?_
    refine ev_W.brT rfl rfl (nI_le (a := 3) (by omega) (by omega)) ?_
    refine ev_W.fn rfl rfl ?_
    refine ev_W.ret rfl rfl ?_
    exact k _ _ R rf_E.rf
  | succ n ih =>
    intro i s t h m hin R A r k
    have hi : i < 3 := by omega
    have hD : ∀ j, j < 3 → 12 ≤ (fun _ : Nat => 13) j ∧ (fun _ : Nat => 13) j ≤ 20 := fun _ _ => ⟨show 12 ≤ 13 by decide, show 13 ≤ 20 by decide⟩
    have g := A i hi
    obtain ⟨_, _, _, _, _, _, c1, c2, c3, c4, c5, c6, c7, c8, c9, c10⟩ := g
    have B := AI_tk1 (c := i) hi (fun j hj => (hD j hj).1) A r
    rw [M_tkF] at k
    have nxt : ∀ (b : Bool) (t' : rf_S) (h' : ev_H), zR z m0 (M_tk1 s i).1 p t' h' → rf_E m0 h h' → (M_tk1 s i).2 = b → ev_W (mk_Z_tick z) (108, [some (.ref m0), some (.int (if b = true then nI m + 1 else nI m)), some (.int (nI i))], [], h') Q := by
      intro b t' h' R' E' e
      rw [e] at k
      refine ev_W.fn rfl rfl ?_
      refine ev_W.fn rfl rfl ?_
      have nx := ih (i + 1) _ _ _ (if b = true then m + 1 else m) (by omega) R' B.1 B.2 (fun t2 h2 R2 E2 => k t2 h2 R2 (rf_E.tr E' E2))
      rw [← nI_1] at nx
      cases b with
      | true => rw [if_pos rfl, ← nI_1] at nx; exact nx
      | false => exact nx
    have e1 : M_tk1 s i = if sI s 5 i = 0 then M_cd s i else if (M_gs s i).2 = true then (M_ca (M_gs s i).1 i, true) else ((M_gs s i).1, false) := rfl
    refine ev_W.fn rfl rfl ?_
    refine ev_W.fn rfl rfl ?_
    refine ev_W.brF rfl rfl (nI_ge (b := 3) (by omega) (by decide)) ?_
    refine ev_W.fn rfl rfl ?_
    refine ev_W.obj rfl R.ob rfl ?_
    refine ev_W.fn rfl rfl ?_
    refine ev_W.g35 R hi rfl rfl ?_
    refine ev_W.br rfl rfl (fun g5 => ?_) (fun g5 => ?_)
    · refine ev_W.fn rfl rfl ?_
      refine ev_W.obj rfl R.ob rfl ?_
      refine ev_W.fn rfl rfl ?_
      refine ev_W.g42 R hi rfl rfl ?_
      refine ev_W.br rfl rfl (fun g10 => ?_) (fun g10 => ?_)
      · have e : M_tk1 s i = (s, false) := by rw [e1, if_pos g5]; unfold M_cd; rw [if_pos g10]
        exact nxt false t _ (by rw [e]; exact R) rf_E.rf (by rw [e])
      · have e12 : sI (tI s 12 i (sI s 12 i - 1)) 12 i = sI s 12 i - 1 := by simp [st_a]
        have q := i32_sub1 (c4 g5 g10)
        refine ev_W.fn rfl rfl ?_
        refine ev_W.obj rfl R.ob rfl ?_
        refine ev_W.fn rfl rfl ?_
        refine ev_W.fn rfl rfl ?_
        refine ev_W.g57 R hi rfl rfl ?_
        refine ev_W.fn rfl rfl ?_
        refine ev_W.fn rfl rfl ?_
        refine ev_W.p57 R hi rfl rfl (fun t1 u1 R1 E1 => ?_)
        refine ev_W.fn rfl rfl ?_
        refine ev_W.obj rfl R1.ob rfl ?_
        refine ev_W.fn rfl rfl ?_
        refine ev_W.g57 R1 hi rfl rfl ?_
        refine ev_W.br rfl rfl (fun g0 => ?_) (fun g0 => ?_)
        · rw [e12] at g0
          have g0 : 0 < sI s 12 i - 1 := Decidable.not_not.mp (fun w => g0 (q.mpr w))
          have e : M_tk1 s i = (tI s 12 i (sI s 12 i - 1), false) := by rw [e1, if_pos g5]; unfold M_cd; rw [if_neg g10, if_pos g0]
          exact nxt false t1 _ (by rw [e]; exact R1) E1 (by rw [e])
        · rw [e12] at g0
          refine ev_W.fn rfl rfl ?_
          refine ev_W.fn rfl rfl ?_
          refine ev_W.clR rfl rfl rfl rfl rfl R1.ob ?_
          refine sp_Z_endSession R1 hi c6 (fun t2 u2 R2 E2 => ?_)
          have g0 := q.mp (Decidable.not_not.mp g0)
          have e : M_tk1 s i = (M_end (tI s 12 i (sI s 12 i - 1)) i, true) := by rw [e1, if_pos g5]; unfold M_cd; rw [if_neg g10, if_neg g0]
          refine ev_W.fn rfl rfl ?_
          exact nxt true t2 _ (by rw [e]; exact R2) (E1.tr E2) (by rw [e])
    · refine ev_W.fn rfl rfl ?_
      refine ev_W.obj rfl R.ob rfl ?_
      refine ev_W.fn rfl rfl ?_
      refine ev_W.fn rfl rfl ?_
      refine ev_W.obj rfl R.ob rfl ?_
      refine ev_W.fn rfl rfl ?_
      refine ev_W.g38 R hi rfl rfl ?_
      refine ev_W.br rfl rfl (fun g8 => ?_) (fun g8 => ?_)
      · have z8 : sI s 8 i = 0 := Int32.le_antisymm g8 c2.1
        have z7 := c2.2.2 z8
        have eT : tI s 7 i 0 = s := tI_id z7.symm
        refine ev_W.fn rfl rfl ?_
        refine ev_W.p39 R hi rfl rfl (fun t1 u1 R1 E1 => ?_)
        rw [eT] at R1
        refine ev_W.fn rfl rfl ?_
        refine ev_W.obj rfl R1.ob rfl ?_
        refine ev_W.fn rfl rfl ?_
        refine ev_W.g39 R1 hi rfl rfl ?_
        refine ev_W.fn rfl rfl ?_
        refine ev_W.obj rfl R1.ob rfl ?_
        refine ev_W.fn rfl rfl ?_
        refine ev_W.g38 R1 hi rfl rfl ?_
        refine ev_W.brT rfl rfl (by rw [z7, z8]; decide) ?_
        have e : M_tk1 s i = (s, false) := by rw [e1, if_neg g5]; unfold M_gs; rw [if_pos z8]; rfl
        exact nxt false t1 _ (by rw [e]; exact R1) E1 (by rw [e])
      · have n8 : ¬ sI s 8 i = 0 := fun w => g8 (by rw [w]; decide)
        have eG : M_gs s i = (tI s 7 i (sI s 7 i + 1), !decide (sI s 7 i + 1 ≤ sI s 8 i)) := by unfold M_gs; rw [if_neg n8]
        have e7 : sI (tI s 7 i (sI s 7 i + 1)) 7 i = sI s 7 i + 1 := by simp [st_a]
        have e8 : sI (tI s 7 i (sI s 7 i + 1)) 8 i = sI s 8 i := rfl
        have AG : AI (fun _ => 13) (fun _ => 19) N (fun _ => []) (fun _ => []) (tI s 7 i (sI s 7 i + 1)) := by
          have := AI_one hi (fr_gs s i) A (CI_gs (A i hi))
          rw [eG] at this; exact this
        have rG : RI (tI s 7 i (sI s 7 i + 1)) := r
        refine ev_W.fn rfl rfl ?_
        refine ev_W.obj rfl R.ob rfl ?_
        refine ev_W.fn rfl rfl ?_
        refine ev_W.g39 R hi rfl rfl ?_
        refine ev_W.fn rfl rfl ?_
        refine ev_W.fn rfl rfl ?_
        refine ev_W.fn rfl rfl ?_
        refine ev_W.p39 R hi rfl rfl (fun t3 u3 R3 E3 => ?_)
        refine ev_W.fn rfl rfl ?_
        refine ev_W.obj rfl R3.ob rfl ?_
        refine ev_W.fn rfl rfl ?_
        refine ev_W.g39 R3 hi rfl rfl ?_
        refine ev_W.fn rfl rfl ?_
        refine ev_W.obj rfl R3.ob rfl ?_
        refine ev_W.fn rfl rfl ?_
        refine ev_W.g38 R3 hi rfl rfl ?_
        refine ev_W.br rfl rfl (fun gl => ?_) (fun gl => ?_)
        · rw [e7, e8] at gl
          have e : M_tk1 s i = (tI s 7 i (sI s 7 i + 1), false) := by rw [e1, if_neg g5, eG, decide_eq_true gl]; rfl
          exact nxt false t3 _ (by rw [e]; exact R3) E3 (by rw [e])
        · refine ev_W.fn rfl rfl ?_
          refine ev_W.fn rfl rfl ?_
          refine ev_W.fn rfl rfl ?_
          refine ev_W.clR rfl rfl rfl rfl rfl R3.ob ?_
          refine sp_Z_closeC R3 (a := true) hi hD AG rG (Or.inr ⟨rfl, rfl⟩) (fun t4 u4 R4 E4 => ?_)
          rw [e7, e8] at gl
          have e : M_tk1 s i = (M_ca (tI s 7 i (sI s 7 i + 1)) i, true) := by rw [e1, if_neg g5, eG, decide_eq_false gl]; rfl
          refine ev_W.fn rfl rfl ?_
          refine ev_W.fn rfl rfl ?_
          exact nxt true t4 _ (by rw [e]; exact R4) (E3.tr E4) (by rw [e])
theorem sp_Z_tick {N : Nat} (R : zR z m0 s p t h) (H : INV N s) (k : ∀ t' h', zR z m0 ((M_tkF 3 0 s 0).1) p t' h' → rf_E m0 h h' → Q (some (.int (nI (M_tkF 3 0 s 0).2)), h')) : ev_M (mf_Z_tick z) [.ref m0] h Q := by
  refine ev_M.go rfl rfl ?_
  refine ev_W.fn rfl rfl ?_
  refine ev_W.fn rfl rfl ?_
  refine ev_W.fn rfl rfl ?_
  refine ev_W.fn rfl rfl ?_
  exact sp_ztk_loop 3 0 s t h 0 rfl R H.1 H.2 k
theorem sp_Z_isClient {x : Int32} (k : Q (some (.int (zb (decide (0 ≤ x ∧ x ≤ 2)))), h)) : ev_M (mf_Z_isClient z) [.int x] h Q := by
  refine ev_M.go rfl rfl ?_
  refine ev_W.fn rfl rfl ?_
  refine ev_W.br rfl rfl (fun h1 => ?_) (fun h1 => ?_)
  · refine ev_W.fn rfl rfl ?_
    refine ev_W.zret rfl (Or.inl rfl) ?_
    rw [decide_eq_false (fun q => Int32.not_le.mpr h1 q.1)] at k
    exact k
  · refine ev_W.fn rfl rfl ?_
    refine ev_W.fn rfl rfl ?_
    refine ev_W.br rfl rfl (fun h2 => ?_) (fun h2 => ?_)
    · refine ev_W.fn rfl rfl ?_
      refine ev_W.zret rfl (Or.inl rfl) ?_
      rw [decide_eq_false (fun q => Int32.not_le.mpr h2 q.2)] at k
      exact k
    · refine ev_W.fn rfl rfl ?_
      refine ev_W.fn rfl rfl ?_
      refine ev_W.zret rfl (Or.inr rfl) ?_
      rw [decide_eq_true ⟨Int32.not_lt.mp h1, Int32.not_lt.mp h2⟩] at k
      exact k
theorem nI_cl (hc : c < 3) : decide (0 ≤ nI c ∧ nI c ≤ 2) = true := decide_eq_true ⟨nI_pos' (by omega), nI_le (b := 2) (by omega) (by decide)⟩
theorem sp_Z_up {N : Nat} (R : zR z m0 s p t h) (hc : c < 3) (H : INV N s) (k : ∀ p' t' h', zR z m0 (H_up s c).1 p' t' h' → rf_E m0 h h' → Q (some (.int (H_up s c).2), h')) : ev_M (mf_Z_deliver z) [.ref m0, .int (nI c), .int (zb true)] h Q := by
  have e2 : (2 : Int32) * nI c = nI (2 * c) := zm 2 c
  have eo : (4 : Int32) * nI c + 1 - 2 * nI c = nI (2 * c + 1) := by
    rw [show (4 : Int32) * nI c + 1 = nI (4 * c + 1) from zma1 4 c, e2, nI_sub (by omega)]; congr 1; omega
  have g := H.ci hc
  have h31 := R.2.2.2.1 (2 * c) (by omega)
  have h31b := R.2.2.2.1 (2 * c + 1) (by omega)
  refine ev_M.go rfl rfl ?_
  refine ev_W.fn rfl rfl ?_
  refine ev_W.cl rfl rfl rfl rfl rfl ?_
  refine sp_Z_isClient ?_
  refine ev_W.brT rfl rfl (by rw [nI_cl hc]; decide) ?_
  refine ev_W.fn rfl rfl ?_
  refine ev_W.fn rfl rfl ?_
  refine ev_W.fn rfl rfl ?_
  refine ev_W.fn rfl rfl ?_
  refine ev_W.fn rfl rfl ?_
  refine ev_W.fn rfl rfl ?_
  refine ev_W.fn rfl rfl ?_
  refine ev_W.fn rfl rfl ?_
  refine ev_W.obj rfl R.ob rfl ?_
  refine ev_W.fn rfl rfl ?_
  refine ev_W.g0 R (l := 2 * c) (by omega) e2 rfl ?_
  refine ev_W.br rfl rfl (fun g0 => ?_) (fun g0 => ?_)
  · obtain ⟨q, r, hq⟩ : ∃ q r, sN s (2 * c) = q :: r := by
      cases e : sN s (2 * c) with
      | nil => rw [e] at g0; exact absurd rfl g0
      | cons q r => exact ⟨q, r, rfl⟩
    have eH : H_up s c = if (sN s (2 * c + 1)).length < 12 then (if sI s 14 0 = 0 then (H_upF (tN s (2 * c) r) c q, q.1) else (M_bd (H_upF (tN s (2 * c) r) c q), q.1)) else (s, -1) := by unfold H_up; rw [hq]
    rw [eH] at k
    refine ev_W.fn rfl rfl ?_
    refine ev_W.obj rfl R.ob rfl ?_
    refine ev_W.fn rfl rfl ?_
    refine ev_W.fn rfl rfl ?_
    refine ev_W.fn rfl rfl ?_
    refine ev_W.fn rfl rfl ?_
    refine ev_W.fn rfl rfl ?_
    refine ev_W.fn rfl rfl ?_
    refine ev_W.fn rfl rfl ?_
    refine ev_W.g0 R (l := 2 * c + 1) (by omega) eo rfl ?_
    refine ev_W.fn rfl rfl ?_
    refine ev_W.br rfl rfl (fun g12 => ?_) (fun g12 => ?_)
    · rw [if_neg (fun w => nI_ge (b := 12) w (by decide) g12)] at k
      refine ev_W.fn rfl rfl ?_
      refine ev_W.ret rfl rfl ?_
      exact k _ _ _ R rf_E.rf
    · have g12 : (sN s (2 * c + 1)).length < 12 := Nat.lt_of_not_le (fun w => g12 (nI_le (a := 12) w (by omega)))
      rw [if_pos g12] at k
      have gt := CI_takeU hq g
      have eN : sN (tN s (2 * c) r) (2 * c + 1) = sN s (2 * c + 1) := by simp only [sN, tN]; exact va_up_ne _ _ (by omega)
      have H1 : HI 11 19 N c [q] [] (tN s (2 * c) r) := HI_one hc (fr_N0 r) (H.hi c) (fun _ => CI_down gt.1 (by rw [eN]; omega))
      have hI := INV_upF hc gt.2 (by rw [eN]; omega) H1
      have hk13 : ∀ j, j < 3 → ∃ k, k < 512 ∧ sI (H_upF (tN s (2 * c) r) c q) 13 j = nI k := fun j hj => (hI.ci hj).2.2.2.2.2.2.2.2.2.2.2.1
      have H14 : HI 11 19 N c [q] [] (tI (tN s (2 * c) r) 14 0 0) := HI_f (Or.inl rfl) H1
      have q14 := (H.ci (show 0 < 3 by decide)).2.2.2.2.2.2.2.1.2.1
      refine ev_W.fn rfl rfl ?_
      refine ev_W.fn rfl rfl ?_
      refine ev_W.fn rfl rfl ?_
      refine ev_W.fn rfl rfl ?_
      refine ev_W.clR rfl rfl rfl rfl rfl R.ob ?_
      rw [e2]
      refine sp_Z_takeFirst R (l := 2 * c) (by omega) hq (fun t1 u1 R1 E1 => ?_)
      refine ev_W.fn rfl rfl ?_
      refine ev_W.g12 R1 rfl ?_
      refine ev_W.fn rfl rfl ?_
      refine ev_W.fn rfl rfl ?_
      refine ev_W.fn rfl rfl ?_
      have e14 : sI (tN s (2 * c) r) 14 0 = sI s 14 0 := rfl
      refine ev_W.fn rfl rfl ?_
      refine ev_W.g62 R1 rfl ?_
      refine ev_W.fn rfl rfl ?_
      refine ev_W.fn rfl rfl ?_
      refine ev_W.fn rfl rfl ?_
      refine ev_W.p62 R1 rfl (fun t9 u9 R9 E9 => ?_)
      have eF : H_upF (tN s (2 * c) r) c q = if sI s 14 0 = 1 then tI (tN s (2 * c) r) 14 0 0 else M_recv (tI (tN s (2 * c) r) 14 0 0) c q := rfl
      -- from where the broker has it
      have brk : ∀ (t' : rf_S) (h' : ev_H), zR z m0 (H_upF (tN s (2 * c) r) c q) q t' h' → rf_E m0 h h' → ev_W (mk_Z_deliver z) (114, [some (.ref m0), some (.int (nI c)), some (.int (zb true)), some (.int (nI (2 * c))), some (.int q.1), some (.int (sI s 14 0))], [], h') Q := by
        intro t' h' R' E'
        refine ev_W.fn rfl rfl ?_
        refine ev_W.br rfl rfl (fun f0 => ?_) (fun f0 => ?_)
        · refine ev_W.fn rfl rfl ?_
          refine ev_W.ret rfl rfl ?_
          have z0 : sI s 14 0 = 0 := by
            rcases q14 with w | w | w
            · exact w
            · rw [w] at f0; exact absurd f0 (by decide)
            · rw [w] at f0; exact absurd f0 (by decide)
          rw [if_pos z0] at k
          exact k _ _ _ R' E'
        · have z0 : ¬ sI s 14 0 = 0 := fun w => f0 (by rw [w]; decide)
          rw [if_neg z0] at k
          refine ev_W.fn rfl rfl ?_
          refine ev_W.clR rfl rfl rfl rfl rfl R'.ob ?_
          refine sp_Z_crash R' hk13 (fun t1 u1 R1 E1 => ?_)
          refine ev_W.fn rfl rfl ?_
          refine ev_W.ret rfl rfl ?_
          exact k _ _ _ R1 (rf_E.tr E' E1)
      refine ev_W.fn rfl rfl ?_
      refine ev_W.fn rfl rfl ?_
      refine ev_W.br rfl rfl (fun f1 => ?_) (fun f1 => ?_)
      · refine brk t9 _ ?_ (rf_E.tr (E1) E9)
        rw [eF, if_pos (show sI s 14 0 = 1 from f1)]; exact R9
      · refine ev_W.fn rfl rfl ?_
        refine ev_W.fn rfl rfl ?_
        refine ev_W.clR rfl rfl rfl rfl rfl R9.ob ?_
        refine sp_Z_brokerGets R9 hc gt.2 H14 (by show (sN (tN s (2 * c) r) (2 * c + 1)).length ≤ 11; rw [eN]; omega) (fun t10 u10 R10 E10 => ?_)
        refine brk t10 _ ?_ (rf_E.tr (E1) (rf_E.tr E9 E10))
        rw [eF, if_neg (show ¬ sI s 14 0 = 1 from f1)]; exact R10
  · refine ev_W.fn rfl rfl ?_
    refine ev_W.ret rfl rfl ?_
    have e0 : sN s (2 * c) = [] := List.length_eq_zero_iff.mp ((nI_eq (b := 0) (by omega) (by decide)).mp (Decidable.not_not.mp g0))
    have eH : H_up s c = (s, 0) := by unfold H_up; rw [e0]
    rw [eH] at k
    exact k _ _ _ R rf_E.rf
theorem sp_Z_dn {N : Nat} (hN : N < 2 ^ 30) (R : zR z m0 s p t h) (hc : c < 3) (H : INV N s) (k : ∀ p' t' h', zR z m0 (H_dn s c).1 p' t' h' → rf_E m0 h h' → Q (some (.int (H_dn s c).2), h')) : ev_M (mf_Z_deliver z) [.ref m0, .int (nI c), .int (zb false)] h Q := by
  have e2 : (2 : Int32) * nI c + 1 = nI (2 * c + 1) := zma1 2 c
  have eo : (4 : Int32) * nI c + 1 - (2 * nI c + 1) = nI (2 * c) := by
    rw [show (4 : Int32) * nI c + 1 = nI (4 * c + 1) from zma1 4 c, e2, nI_sub (by omega)]; congr 1; omega
  have g := H.ci hc
  have h31 := R.2.2.2.1 (2 * c) (by omega)
  have h31b := R.2.2.2.1 (2 * c + 1) (by omega)
  refine ev_M.go rfl rfl ?_
  refine ev_W.fn rfl rfl ?_
  refine ev_W.cl rfl rfl rfl rfl rfl ?_
  refine sp_Z_isClient ?_
  refine ev_W.brT rfl rfl (by rw [nI_cl hc]; decide) ?_
  refine ev_W.fn rfl rfl ?_
  refine ev_W.fn rfl rfl ?_
  refine ev_W.fn rfl rfl ?_
  refine ev_W.fn rfl rfl ?_
  refine ev_W.fn rfl rfl ?_
  refine ev_W.fn rfl rfl ?_
  refine ev_W.fn rfl rfl ?_
  refine ev_W.fn rfl rfl ?_
  refine ev_W.fn rfl rfl ?_
  refine ev_W.obj rfl R.ob rfl ?_
  refine ev_W.fn rfl rfl ?_
  refine ev_W.g0 R (l := 2 * c + 1) (by omega) e2 rfl ?_
  refine ev_W.br rfl rfl (fun g0 => ?_) (fun g0 => ?_)
  · obtain ⟨q, r, hq⟩ : ∃ q r, sN s (2 * c + 1) = q :: r := by
      cases e : sN s (2 * c + 1) with
      | nil => rw [e] at g0; exact absurd rfl g0
      | cons q r => exact ⟨q, r, rfl⟩
    have eH : H_dn s c = if ¬ sI s 0 c = 3 ∧ (sN s (2 * c)).length < 12 then (M_crv (tN s (2 * c + 1) r) c q, q.1) else (s, -1) := by unfold H_dn; rw [hq]
    rw [eH] at k
    refine ev_W.fn rfl rfl ?_
    refine ev_W.obj rfl R.ob rfl ?_
    refine ev_W.fn rfl rfl ?_
    refine ev_W.fn rfl rfl ?_
    refine ev_W.fn rfl rfl ?_
    refine ev_W.fn rfl rfl ?_
    refine ev_W.fn rfl rfl ?_
    refine ev_W.fn rfl rfl ?_
    refine ev_W.fn rfl rfl ?_
    refine ev_W.g0 R (l := 2 * c) (by omega) eo rfl ?_
    refine ev_W.fn rfl rfl ?_
    refine ev_W.br rfl rfl (fun g12 => ?_) (fun g12 => ?_)
    · rw [if_neg (fun w => nI_ge (b := 12) w.2 (by decide) g12)] at k
      refine ev_W.fn rfl rfl ?_
      refine ev_W.ret rfl rfl ?_
      exact k _ _ _ R rf_E.rf
    · have g12 : (sN s (2 * c)).length < 12 := Nat.lt_of_not_le (fun w => g12 (nI_le (a := 12) w (by omega)))
      refine ev_W.fn rfl rfl ?_
      refine ev_W.fn rfl rfl ?_
      refine ev_W.fn rfl rfl ?_
      refine ev_W.obj rfl R.ob rfl ?_
      refine ev_W.fn rfl rfl ?_
      refine ev_W.g22 R hc rfl rfl ?_
      refine ev_W.fn rfl rfl ?_
      refine ev_W.br rfl rfl (fun g3 => ?_) (fun g3 => ?_)
      · have eN : sN (tN s (2 * c + 1) r) (2 * c) = sN s (2 * c) := by simp only [sN, tN]; exact va_up_ne _ _ (by omega)
        rw [if_pos ⟨g3, g12⟩] at k
        have gt := CI_takeD hq g
        have gl := CI_len (L' := 11) gt.1 (by rw [eN]; omega)
        refine ev_W.fn rfl rfl ?_
        refine ev_W.fn rfl rfl ?_
        refine ev_W.clR rfl rfl rfl rfl rfl R.ob ?_
        rw [e2]
        refine sp_Z_takeFirst R (l := 2 * c + 1) (by omega) hq (fun t1 u1 R1 E1 => ?_)
        refine ev_W.fn rfl rfl ?_
        refine ev_W.g12 R1 rfl ?_
        refine ev_W.fn rfl rfl ?_
        refine ev_W.fn rfl rfl ?_
        refine ev_W.fn rfl rfl ?_
        refine ev_W.fn rfl rfl ?_
        refine ev_W.fn rfl rfl ?_
        refine ev_W.clR rfl rfl rfl rfl rfl R1.ob ?_
        refine sp_Z_clientGets R1 hc gt.2 gl hN (fun t2 u2 R2 E2 => ?_)
        refine ev_W.fn rfl rfl ?_
        refine ev_W.ret rfl rfl ?_
        exact k _ _ _ R2 (E1.tr E2)
      · rw [if_neg (fun w => w.1 (Decidable.not_not.mp g3))] at k
        refine ev_W.fn rfl rfl ?_
        refine ev_W.ret rfl rfl ?_
        exact k _ _ _ R rf_E.rf
  · refine ev_W.fn rfl rfl ?_
    refine ev_W.ret rfl rfl ?_
    have e0 : sN s (2 * c + 1) = [] := List.length_eq_zero_iff.mp ((nI_eq (b := 0) (by omega) (by decide)).mp (Decidable.not_not.mp g0))
    have eH : H_dn s c = (s, 0) := by unfold H_dn; rw [e0]
    rw [eH] at k
    exact k _ _ _ R rf_E.rf
end ZX1
