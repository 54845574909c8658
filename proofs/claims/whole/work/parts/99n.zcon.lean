/-! The reference's calls, the rest (laid by wip/whole/p99n.py). -/
section ZZ1
variable {z : Nat × Nat} {m0 : Nat} {s : hb_S} {p : hb_Pk} {t : rf_S} {h : ev_H} {Q : ev_O → Prop} {c l : Nat} {x : Int32}
theorem sp_Z_con {cl : Bool} {ex wi ke : Int32} (R : zR z m0 s p t h) (hc : c < 3) (hu : sI s 0 c = 0 → sN s (2 * c) = []) (k : ∀ t' h', zR z m0 ((H_con s c cl ex wi ke).1) p t' h' → rf_E m0 h h' → Q (some (.int (zb (H_con s c cl ex wi ke).2)), h')) : ev_M (mf_Z_connect z) [.ref m0, .int (nI c), .int (zb cl), .int ex, .int wi, .int ke] h Q := by
  have e2 : (2 : Int32) * nI c = nI (2 * c) := zm 2 c
  unfold H_con at k
  refine ev_M.go rfl rfl ?_
  refine ev_W.fn rfl rfl ?_
  refine ev_W.cl rfl rfl rfl rfl rfl ?_
  refine sp_Z_isClient ?_
  refine ev_W.brF rfl rfl (by rw [nI_cl hc]; decide) ?_
  refine ev_W.fn rfl rfl ?_
  refine ev_W.obj rfl R.ob rfl ?_
  refine ev_W.fn rfl rfl ?_
  refine ev_W.g22 R hc rfl rfl ?_
  refine ev_W.br rfl rfl (fun g0 => ?_) (fun g0 => ?_)
  · refine ev_W.fn rfl rfl ?_
    refine ev_W.zret rfl (Or.inl rfl) ?_
    rw [if_neg (fun w => g0 w.1)] at k
    exact k _ _ R rf_E.rf
  · refine ev_W.fn rfl rfl ?_
    refine ev_W.br rfl rfl (fun g1 => ?_) (fun g1 => ?_)
    · refine ev_W.fn rfl rfl ?_
      refine ev_W.zret rfl (Or.inl rfl) ?_
      rw [if_neg (fun w => Int32.not_le.mpr g1 w.2.1.1)] at k
      exact k _ _ R rf_E.rf
    · refine ev_W.fn rfl rfl ?_
      refine ev_W.fn rfl rfl ?_
      refine ev_W.br rfl rfl (fun g2 => ?_) (fun g2 => ?_)
      · refine ev_W.fn rfl rfl ?_
        refine ev_W.zret rfl (Or.inl rfl) ?_
        rw [if_neg (fun w => Int32.not_le.mpr g2 w.2.1.2)] at k
        exact k _ _ R rf_E.rf
      · refine ev_W.fn rfl rfl ?_
        refine ev_W.fn rfl rfl ?_
        refine ev_W.br rfl rfl (fun g3 => ?_) (fun g3 => ?_)
        · refine ev_W.fn rfl rfl ?_
          refine ev_W.zret rfl (Or.inl rfl) ?_
          rw [if_neg (fun w => Int32.not_le.mpr g3 w.2.2.1.1)] at k
          exact k _ _ R rf_E.rf
        · refine ev_W.fn rfl rfl ?_
          refine ev_W.fn rfl rfl ?_
          refine ev_W.br rfl rfl (fun g4 => ?_) (fun g4 => ?_)
          · refine ev_W.fn rfl rfl ?_
            refine ev_W.zret rfl (Or.inl rfl) ?_
            rw [if_neg (fun w => Int32.not_le.mpr g4 w.2.2.1.2)] at k
            exact k _ _ R rf_E.rf
          · refine ev_W.fn rfl rfl ?_
            refine ev_W.br rfl rfl (fun g5 => ?_) (fun g5 => ?_)
            · refine ev_W.fn rfl rfl ?_
              refine ev_W.zret rfl (Or.inl rfl) ?_
              rw [if_neg (fun w => Int32.not_le.mpr g5 w.2.2.2.1)] at k
              exact k _ _ R rf_E.rf
            · refine ev_W.fn rfl rfl ?_
              refine ev_W.fn rfl rfl ?_
              refine ev_W.br rfl rfl (fun g6 => ?_) (fun g6 => ?_)
              · have cond : sI s 0 c = 0 ∧ (0 ≤ ex ∧ ex ≤ 50) ∧ (1 ≤ wi ∧ wi ≤ 3) ∧ (0 ≤ ke ∧ ke ≤ 20) := ⟨Decidable.not_not.mp g0, ⟨Int32.not_lt.mp g1, Int32.not_lt.mp g2⟩, ⟨Int32.not_lt.mp g3, Int32.not_lt.mp g4⟩, ⟨Int32.not_lt.mp g5, g6⟩⟩
                rw [if_pos cond] at k
                have u0 := hu cond.1
                refine ev_W.fn rfl rfl ?_
                refine ev_W.obj rfl R.ob rfl ?_
                refine ev_W.fn rfl rfl ?_
                refine ev_W.fn rfl rfl ?_
                refine ev_W.p22 R hc rfl rfl (fun t1 u1 R1 E1 => ?_)
                have P1 := R1.1
                have hn0 : t1.1 0 (2 * c) = nI 0 := by
                  have := (R1.2.1.n (2 * c) (by omega)).1
                  rw [show sN (tI s 0 c 1) (2 * c) = sN s (2 * c) from rfl, u0] at this
                  exact this
                refine ev_W.fn rfl rfl ?_
                refine ev_W.fn rfl rfl ?_
                refine ev_W.fn rfl rfl ?_
                refine ev_W.fn rfl rfl ?_
                refine ev_W.fn rfl rfl ?_
                refine ev_W.fn rfl rfl ?_
                refine ev_W.fn rfl rfl ?_
                refine ev_W.clR rfl rfl rfl rfl rfl R1.ob ?_
                rw [e2]
                refine sp_Z_send0 (l := 2 * c) (n := 0) P1 (by omega) hn0 (by decide) (fun v1 P2 F1 => ?_)
                have EE := rf_E.tr E1 F1
                obtain ⟨z0, z1, z2, z3, z4, z5, z6, z7⟩ := zsd_0 t1 (2 * c) 0 1 0 ex
                have R0 := R1
                have j33 : (zsd t1 (2 * c) 0 1 0 ex).2.1 33 c = tz_pl (sJ s 0 c) := ((zsd_ag t1 (2 * c) 0 1 0 ex).l 33 c (by omega)).trans (R1.2.1.j0 c hc)
                have j34 : (zsd t1 (2 * c) 0 1 0 ex).1 34 c = sI s 3 c := ((zsd_ag t1 (2 * c) 0 1 0 ex).i 34 c (by omega)).trans (R1.2.1.c3 c hc)
                have P := P2
                refine ev_W.fn rfl rfl ?_
                refine ev_W.fn rfl rfl ?_
                refine ev_W.obj rfl P.2.2.2.1 rfl ?_
                refine ev_W.fn rfl rfl ?_
                refine ev_W.fn rfl rfl ?_
                refine ev_W.sz 6 P rfl (zb_01 cl) rfl (show 32 * (2 * c) + 0 < 192 by omega) rfl (fun u1 R1 E1 => ?_)
                refine ev_W.fn rfl rfl ?_
                refine ev_W.obj rfl R1.2.2.2.1 rfl ?_
                refine ev_W.fn rfl rfl ?_
                refine ev_W.fn rfl rfl ?_
                refine ev_W.si 8 R1 rfl rfl (show 32 * (2 * c) + 0 < 192 by omega) rfl (fun u2 R2 E2 => ?_)
                refine ev_W.fn rfl rfl ?_
                refine ev_W.obj rfl R2.2.2.2.1 rfl ?_
                refine ev_W.fn rfl rfl ?_
                refine ev_W.fn rfl rfl ?_
                refine ev_W.si 9 R2 rfl rfl (show 32 * (2 * c) + 0 < 192 by omega) rfl (fun u3 R3 E3 => ?_)
                refine ev_W.fn rfl rfl ?_
                refine ev_W.obj rfl R3.2.2.2.1 rfl ?_
                refine ev_W.fn rfl rfl ?_
                refine ev_W.fn rfl rfl ?_
                refine ev_W.obj rfl R3.2.2.2.1 rfl ?_
                refine ev_W.fn rfl rfl ?_
                refine ev_W.rl 33 R3 rfl rfl hc rfl ?_
                refine ev_W.sl 10 R3 rfl rfl (show 32 * (2 * c) + 0 < 192 by omega) rfl (fun u4 R4 E4 => ?_)
                refine ev_W.fn rfl rfl ?_
                refine ev_W.obj rfl R4.2.2.2.1 rfl ?_
                refine ev_W.fn rfl rfl ?_
                refine ev_W.fn rfl rfl ?_
                refine ev_W.obj rfl R4.2.2.2.1 rfl ?_
                refine ev_W.fn rfl rfl ?_
                refine ev_W.ri 34 R4 rfl rfl hc rfl ?_
                refine ev_W.si 11 R4 rfl rfl (show 32 * (2 * c) + 0 < 192 by omega) rfl (fun u5 R5 E5 => ?_)
                refine ev_W.fn rfl rfl ?_
                refine ev_W.zret rfl (Or.inr rfl) ?_
                refine k _ _ ⟨R5, ?_, R0.2.2.1, R0.2.2.2.dN (2 * c) (by rw [show sN (tI s 0 c 1) (2 * c) = sN s (2 * c) from rfl, u0]; simp)⟩ (rf_E.tr EE (E1.tr (E2.tr (E3.tr (E4.tr E5)))))
                have W : ∀ f, 1 ≤ f → f < 12 → ((f = 0 ∧ 32 * (2 * c) + 0 = 2 * c) ∨ (1 ≤ f ∧ f < 12 ∧ 32 * (2 * c) + 0 = 32 * (2 * c) + (sN (tI s 0 c 1) (2 * c)).length)) := fun f a b => Or.inr ⟨a, b, by rw [show sN (tI s 0 c 1) (2 * c) = sN s (2 * c) from rfl, u0]; rfl⟩
                have A0 := zsd_ag t1 (2 * c) 0 1 0 ex
                have eL : (sN (tI s 0 c 1) (2 * c)).length = 0 := by rw [show sN (tI s 0 c 1) (2 * c) = sN s (2 * c) from rfl, u0]; rfl
                refine RR.push (s := tI s 0 c 1) (t := t1) (l := 2 * c) R0.2.1 R0.2.2.2 (by omega) (by rw [eL]; decide) (((((A0.mono (fun f j q => by rw [eL]; exact q)).wI _ (W 6 (by decide) (by decide))).wI _ (W 8 (by decide) (by decide))).wI _ (W 9 (by decide) (by decide))).wL _ (W 10 (by decide) (by decide)) |>.wI _ (W 11 (by decide) (by decide))) rfl ?_ ?_
                · simp only [uI_1, uI_2, uL_1, uL_0]
                  simp
                  exact z0
                · rw [eL]
                  refine ⟨?_, ?_, ?_, ?_, ?_, ?_, fun _ => ⟨?_, ?_, ?_, ?_⟩, fun q => absurd rfl q⟩
                  · simp only [uI_1, uI_2, uL_1, uL_0]; simp; exact z1
                  · simp only [uI_1, uI_2, uL_1, uL_0]; simp; exact z2
                  · simp only [uI_1, uI_2, uL_1, uL_0]; simp; exact z3
                  · simp only [uI_1, uI_2, uL_1, uL_0]; simp; exact z4
                  · simp only [uI_1, uI_2, uL_1, uL_0]; simp; exact z5
                  · simp only [uI_1, uI_2, uL_1, uL_0]; simp
                  · simp only [uI_1, uI_2, uL_1, uL_0]; simp
                  · simp only [uI_1, uI_2, uL_1, uL_0]; simp
                  · simp only [uI_1, uI_2, uL_1, uL_0]; simp; exact j33
                  · simp only [uI_1, uI_2, uL_1, uL_0]; simp; exact j34
              · refine ev_W.fn rfl rfl ?_
                refine ev_W.zret rfl (Or.inl rfl) ?_
                rw [if_neg (fun w => g6 w.2.2.2.2)] at k
                exact k _ _ R rf_E.rf
theorem sp_Z_pub {T : Int64} {v q : Int32} {b : Bool} (R : zR z m0 s p t h) (hc : c < 3) (hS : okS (sP s c)) (k : ∀ t' h', zR z m0 ((H_pub s c T v q b).1) p t' h' → rf_E m0 h h' → Q (some (.int (zb (H_pub s c T v q b).2)), h')) (hT : tx_tg (tx_read T) 8 0 = true → tpc (tx_read T)) : ev_M (mf_Z_publish z) [.ref m0, .int (nI c), .long T, .int v, .int q, .int (zb b)] h Q := by
  have e2 : (2 : Int32) * nI c = nI (2 * c) := zm 2 c
  have epl := pl_read T
  have h31 := R.2.2.2.1 (2 * c) (by omega)
  have h4 := hS.1
  have eH : H_pub s c T v q b = if tx_tg (tx_read T) 8 0 = true ∧ (0 ≤ q ∧ q ≤ 2) then (if q = 0 then (if cs s c = true then (M_up s c (M_pkt (tx_read T, v, q, b) 0 false), true) else (s, false)) else if ckp s c = true then (M_keep s c (tx_read T, v, q, b), true) else (s, false)) else (s, false) := rfl
  rw [eH] at k
  clear eH
  refine ev_M.go rfl rfl ?_
  refine ev_W.fn rfl rfl ?_
  refine ev_W.cl rfl rfl rfl rfl rfl ?_
  refine sp_Z_isClient ?_
  refine ev_W.brF rfl rfl (by rw [nI_cl hc]; decide) ?_
  refine ev_W.fn rfl rfl ?_
  refine ev_W.fn rfl rfl ?_
  refine ev_W.clR rfl rfl rfl rfl rfl R.ob ?_
  refine sp_Z_isTopicR R (fun t1 u1 R1 E1 => ?_)
  refine ev_W.br rfl rfl (fun gt => ?_) (fun gt => ?_)
  · refine ev_W.fn rfl rfl ?_
    refine ev_W.zret rfl (Or.inl rfl) ?_
    rw [if_neg (fun w => by rw [zb_n0.mp gt] at w; exact absurd w.1 (by decide))] at k
    exact k _ _ R1 E1
  · refine ev_W.fn rfl rfl ?_
    refine ev_W.br rfl rfl (fun g1 => ?_) (fun g1 => ?_)
    · refine ev_W.fn rfl rfl ?_
      refine ev_W.zret rfl (Or.inl rfl) ?_
      rw [if_neg (fun w => Int32.not_le.mpr g1 w.2.1)] at k
      exact k _ _ R1 E1
    · refine ev_W.fn rfl rfl ?_
      refine ev_W.fn rfl rfl ?_
      refine ev_W.br rfl rfl (fun g2 => ?_) (fun g2 => ?_)
      · refine ev_W.fn rfl rfl ?_
        refine ev_W.zret rfl (Or.inl rfl) ?_
        rw [if_neg (fun w => Int32.not_le.mpr g2 w.2.2)] at k
        exact k _ _ R1 E1
      · have gT := zb_1.mp gt
        have hT := hT gT
        have hq : 0 ≤ q ∧ q ≤ 2 := ⟨Int32.not_lt.mp g1, Int32.not_lt.mp g2⟩
        rw [if_pos ⟨gT, hq⟩] at k
        clear gt
        generalize tx_read T = G at k epl gT hT
        refine ev_W.fn rfl rfl ?_
        refine ev_W.obj rfl R1.ob rfl ?_
        refine ev_W.fn rfl rfl ?_
        refine ev_W.fn rfl rfl ?_
        refine ev_W.fn rfl rfl ?_
        refine ev_W.g0 R1 (l := 2 * c) (by omega) e2 rfl ?_
        refine ev_W.fn rfl rfl ?_
        refine ev_W.br rfl rfl (fun gl => ?_) (fun gl => ?_)
        · have gl : (sN s (2 * c)).length < 12 := (nI_ltI (b := 12) (by omega) (by decide)).mp gl
          refine ev_W.fn rfl rfl ?_
          refine ev_W.br rfl rfl (fun g0 => ?_) (fun g0 => ?_)
          · rw [if_neg g0] at k
            refine ev_W.fn rfl rfl ?_
            refine ev_W.obj rfl R1.ob rfl ?_
            refine ev_W.fn rfl rfl ?_
            refine ev_W.g23 R1 hc rfl rfl ?_
            refine ev_W.fn rfl rfl ?_
            refine ev_W.br rfl rfl (fun g5 => ?_) (fun g5 => ?_)
            · have g5 : (sP s c).length < 4 := Nat.lt_of_le_of_ne h4 (fun w => g5 (by rw [w]; rfl))
              have hck : ckp s c = true := decide_eq_true ⟨g5, gl⟩
              rw [if_pos hck] at k
              refine ev_W.fn rfl rfl ?_
              refine ev_W.cl rfl rfl rfl rfl rfl ?_
              refine sp_Z_plain ?_
              refine ev_W.fn rfl rfl ?_
              refine ev_W.fn rfl rfl ?_
              refine ev_W.brT rfl rfl g0 ?_
              have P := R1.1
              have R0 := R1
              have EE := E1
              have hn := (R1.2.1.p c hc).1
              have ix : 4 * nI c + t1.1 23 c = nI (4 * c + (sP s c).length) := by rw [hn]; exact zma 4 c _
              refine ev_W.fn rfl rfl ?_
              refine ev_W.fn rfl rfl ?_
              refine ev_W.fn rfl rfl ?_
              refine ev_W.fn rfl rfl ?_
              refine ev_W.obj rfl P.2.2.2.1 rfl ?_
              refine ev_W.fn rfl rfl ?_
              refine ev_W.ri 23 P rfl rfl hc rfl ?_
              refine ev_W.fn rfl rfl ?_
              refine ev_W.fn rfl rfl ?_
              refine ev_W.fn rfl rfl ?_
              refine ev_W.obj rfl P.2.2.2.1 rfl ?_
              refine ev_W.fn rfl rfl ?_
              refine ev_W.fn rfl rfl ?_
              refine ev_W.sl 24 P rfl ix (show 4 * c + (sP s c).length < 12 by omega) rfl (fun u1 R1 E1 => ?_)
              refine ev_W.fn rfl rfl ?_
              refine ev_W.obj rfl R1.2.2.2.1 rfl ?_
              refine ev_W.fn rfl rfl ?_
              refine ev_W.fn rfl rfl ?_
              refine ev_W.si 25 R1 rfl ix (show 4 * c + (sP s c).length < 12 by omega) rfl (fun u2 R2 E2 => ?_)
              refine ev_W.fn rfl rfl ?_
              refine ev_W.obj rfl R2.2.2.2.1 rfl ?_
              refine ev_W.fn rfl rfl ?_
              refine ev_W.fn rfl rfl ?_
              refine ev_W.si 26 R2 rfl ix (show 4 * c + (sP s c).length < 12 by omega) rfl (fun u3 R3 E3 => ?_)
              refine ev_W.fn rfl rfl ?_
              refine ev_W.obj rfl R3.2.2.2.1 rfl ?_
              refine ev_W.fn rfl rfl ?_
              refine ev_W.fn rfl rfl ?_
              refine ev_W.sz 27 R3 rfl (zb_01 b) ix (show 4 * c + (sP s c).length < 12 by omega) rfl (fun u4 R4 E4 => ?_)
              refine ev_W.fn rfl rfl ?_
              refine ev_W.obj rfl R4.2.2.2.1 rfl ?_
              refine ev_W.fn rfl rfl ?_
              refine ev_W.fn rfl rfl ?_
              refine ev_W.si 28 R4 rfl ix (show 4 * c + (sP s c).length < 12 by omega) rfl (fun u5 R5 E5 => ?_)
              refine ev_W.fn rfl rfl ?_
              refine ev_W.obj rfl R5.2.2.2.1 rfl ?_
              refine ev_W.fn rfl rfl ?_
              refine ev_W.fn rfl rfl ?_
              refine ev_W.ri 23 R5 rfl rfl hc rfl ?_
              refine ev_W.fn rfl rfl ?_
              refine ev_W.fn rfl rfl ?_
              refine ev_W.si 23 R5 rfl rfl hc rfl (fun u6 R6 E6 => ?_)
              have W : ∀ f, 24 ≤ f → f < 30 → WP c f (4 * c + (sP s c).length) := fun f a b => Or.inr ⟨a, b, by omega, by omega⟩
              have R9 : zR z m0 (tP s c (sP s c ++ [((G, v, q, b), 0, 0)])) p _ _ := ⟨R6, R0.2.1.store hc R0.2.2.2 ((((((ag.rf.wL _ (W 24 (by decide) (by decide))).wI _ (W 25 (by decide) (by decide))).wI _ (W 26 (by decide) (by decide))).wI _ (W 27 (by decide) (by decide))).wI _ (W 28 (by decide) (by decide))).wI _ (Or.inl ⟨rfl, rfl⟩)) rfl ⟨?_, fun n y hy => ?_⟩, R0.2.2.1, R0.2.2.2.dP hc (by simp; omega)⟩
              · have hS9 : okS (sP (tP s c (sP s c ++ [((G, v, q, b), 0, 0)])) c) := by
                  rw [sP_tP]
                  refine ⟨by rw [List.length_append]; show (sP s c).length + 1 ≤ 4; omega, fun z hz => ?_, ?_, ?_⟩
                  · rcases List.mem_append.mp hz with hz | hz
                    · exact hS.2.1 z hz
                    · rw [List.mem_singleton.mp hz]; exact ⟨⟨hT, (q_of hq).resolve_left g0⟩, Or.inl ⟨rfl, rfl⟩⟩
                  · unfold dst
                    rw [List.pairwise_append]
                    refine ⟨hS.2.2.1, List.pairwise_singleton _ _, fun a ha d hd => ?_⟩
                    rw [List.mem_singleton.mp hd]
                    by_cases e : a.2.2 = 0
                    · exact Or.inl e
                    · exact Or.inr e
                  · rw [uw_cP, cP_app, ← uw_cP]; simp; exact hS.2.2.2
                refine ev_W.fn rfl rfl ?_
                refine ev_W.fn rfl rfl ?_
                refine ev_W.clR rfl rfl rfl rfl rfl R9.ob ?_
                refine sp_Z_pumpClient R9 hc hS9 (by show (sN s (2 * c)).length ≤ 26; omega) (fun t9 u9 R10 E10 => ?_)
                refine ev_W.fn rfl rfl ?_
                refine ev_W.zret rfl (Or.inr rfl) ?_
                exact k _ _ R10 (rf_E.tr EE (rf_E.tr (E1.tr (E2.tr (E3.tr (E4.tr (E5.tr E6))))) E10))
              · simp only [uI_1, uI_2, uL_1, uL_0]
                simp
                rw [hn, nI_1]
              · by_cases e : n < (sP s c).length
                · rw [List.getElem?_append_left e] at hy
                  obtain ⟨a1, a2, a3, a4, a5, a6⟩ := (R0.2.1.p c hc).2 n y hy
                  have ne : ¬ n = (sP s c).length := by omega
                  refine ⟨?_, ?_, ?_, ?_, ?_, fun w => ?_⟩
                  · simp only [uI_1, uI_2, uL_1, uL_0]; simp [ne]; exact a1
                  · simp only [uI_1, uI_2, uL_1, uL_0]; simp [ne]; exact a2
                  · simp only [uI_1, uI_2, uL_1, uL_0]; simp [ne]; exact a3
                  · simp only [uI_1, uI_2, uL_1, uL_0]; simp [ne]; exact a4
                  · simp only [uI_1, uI_2, uL_1, uL_0]; simp [ne]; exact a5
                  · simp only [uI_1, uI_2, uL_1, uL_0]; simp; exact a6 w
                · rw [List.getElem?_append_right (by omega)] at hy
                  have h0 : n - (sP s c).length = 0 := by
                    have := (List.getElem?_eq_some_iff.mp hy).1
                    simp at this; omega
                  rw [h0] at hy
                  have hy : ((G, v, q, b), (0 : Int32), (0 : Int32)) = y := by simpa using hy
                  rw [← hy, show n = (sP s c).length by omega]
                  refine ⟨?_, ?_, ?_, ?_, ?_, fun w => absurd rfl w⟩
                  · simp only [uI_1, uI_2, uL_1, uL_0]; simp; exact epl.symm
                  · simp only [uI_1, uI_2, uL_1, uL_0]; simp
                  · simp only [uI_1, uI_2, uL_1, uL_0]; simp
                  · simp only [uI_1, uI_2, uL_1, uL_0]; simp
                  · simp only [uI_1, uI_2, uL_1, uL_0]; simp
            · refine ev_W.fn rfl rfl ?_
              refine ev_W.zret rfl (Or.inl rfl) ?_
              have g5 : (sP s c).length = 4 := (nI_eq (b := 4) (by omega) (by decide)).mp (Decidable.not_not.mp g5)
              rw [if_neg (fun w => by have := (of_decide_eq_true w).1; omega)] at k
              exact k _ _ R1 E1
          · have g0 := Decidable.not_not.mp g0
            rw [if_pos g0] at k
            refine ev_W.fn rfl rfl ?_
            refine ev_W.obj rfl R1.ob rfl ?_
            refine ev_W.fn rfl rfl ?_
            refine ev_W.g22 R1 hc rfl rfl ?_
            refine ev_W.fn rfl rfl ?_
            refine ev_W.br rfl rfl (fun g5 => ?_) (fun g5 => ?_)
            · have hcs : cs s c = true := decide_eq_true ⟨g5, gl⟩
              rw [if_pos hcs] at k
              refine ev_W.fn rfl rfl ?_
              refine ev_W.cl rfl rfl rfl rfl rfl ?_
              refine sp_Z_plain ?_
              refine ev_W.fn rfl rfl ?_
              refine ev_W.fn rfl rfl ?_
              refine ev_W.brF rfl rfl (fun w => w g0) ?_
              refine ev_W.fn rfl rfl ?_
              refine ev_W.fn rfl rfl ?_
              refine ev_W.fn rfl rfl ?_
              refine ev_W.fn rfl rfl ?_
              refine ev_W.fn rfl rfl ?_
              refine ev_W.fn rfl rfl ?_
              refine ev_W.fn rfl rfl ?_
              refine ev_W.fn rfl rfl ?_
              refine ev_W.clR rfl rfl rfl rfl rfl R1.ob ?_
              rw [e2]
              refine sp_Z_sendPublish R1 (l := 2 * c) (T := G) (by omega) (by omega) epl.symm (fun t2 u2 R2 E2 => ?_)
              refine ev_W.fn rfl rfl ?_
              refine ev_W.fn rfl rfl ?_
              refine ev_W.fn rfl rfl ?_
              refine ev_W.fn rfl rfl ?_
              refine ev_W.fn rfl rfl ?_
              refine ev_W.fn rfl rfl ?_
              refine ev_W.clR rfl rfl rfl rfl rfl R2.ob ?_
              rw [e2]
              refine sp_Z_marked R2 (a := false) (old := sN s (2 * c)) (by omega) (sN_tN _ _ _) (by show ¬ (3 : Int32) = 1; decide) (fun t3 u3 R3 E3 => ?_)
              refine ev_W.fn rfl rfl ?_
              refine ev_W.zret rfl (Or.inr rfl) ?_
              rw [tN_tN] at R3
              subst g0
              exact k _ _ R3 (E1.tr (E2.tr E3))
            · refine ev_W.fn rfl rfl ?_
              refine ev_W.fn rfl rfl ?_
              refine ev_W.zret rfl (Or.inl rfl) ?_
              rw [if_neg (fun w => g5 (cs_ok w).1)] at k
              exact k _ _ R1 E1
        · refine ev_W.fn rfl rfl ?_
          refine ev_W.zret rfl (Or.inl rfl) ?_
          have gl : ¬ (sN s (2 * c)).length < 12 := fun w => gl (nI_lt (b := 12) w (by decide))
          have n1 : ¬ cs s c = true := fun w => gl (cs_ok w).2
          have n2 : ¬ ckp s c = true := fun w => gl (of_decide_eq_true w).2
          rw [if_neg n1, if_neg n2, ite_self] at k
          exact k _ _ R1 E1
end ZZ1
