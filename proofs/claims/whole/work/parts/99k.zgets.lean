/-! The reference's broker gets a packet; crash and tick (laid by wip/whole/p99k.py). -/
section ZW1
variable {z : Nat × Nat} {m0 : Nat} {s : hb_S} {p : hb_Pk} {t : rf_S} {h : ev_H} {Q : ev_O → Prop} {c l : Nat}
theorem sp_Z_brokerGets {l n : Nat} (R : zR z m0 s p t h) (hc : c < 3) (hp : oU p) (H : HI 11 l n c [p] [] s) (hd : (sN s (2 * c + 1)).length ≤ 11) (k : ∀ t' h', zR z m0 (M_recv s c p) p t' h' → rf_E m0 h h' → Q (none, h')) : ev_M (mf_Z_brokerGets z) [.ref m0, .int (nI c)] h Q := by
  have eM : M_recv s c p = if p.1 = 1 then M_rc (if sI s 5 c = 0 then tI s 7 c 0 else M_ca (tI s 7 c 0) c) c p else if p.1 = 3 then M_rp (tI s 7 c 0) c p.2.1 p.2.2.1 p.2.2.2.1 p.2.2.2.2.1 p.2.2.2.2.2.2.1 else if p.1 = 6 then M_send (tI (tI s 7 c 0) 13 c (hrem (sI s 13 c) p.2.1)) c (mkp 7 p.2.1 0) else if p.1 = 4 then M_pump (tP (tI s 7 c 0) (3 + c) (pa_fin (sP s (3 + c)) p.2.1 1 1)) c else if p.1 = 5 then M_pump (M_send (tP (tI s 7 c 0) (3 + c) (pa_rel (sP s (3 + c)) p.2.1).1) c (mkp 6 p.2.1 0)) c else if p.1 = 7 then M_pump (tP (tI s 7 c 0) (3 + c) (pa_fin (sP s (3 + c)) p.2.1 2 2)) c else if p.1 = 8 then M_rs (tI s 7 c 0) c p.2.2.2.1 p.2.2.1 p.2.2.2.2.2.2.1 else if p.1 = 10 then M_ru (tI s 7 c 0) c p.2.2.2.1 else if p.1 = 12 then M_send (tI s 7 c 0) c (mkp 13 0 0) else M_cn (tI s 7 c 0) c := rfl
  rw [eM] at k
  have H7 := HI_7 hc H
  have H12 := H7.mono hc (show 11 ≤ 12 by decide) (Nat.le_refl _)
  have drop : HI 11 l n c [] [] (tI s 7 c 0) := HI_one hc fr.rf H7 CI_drop
  have g0 := drop.ci hc
  have hk13 := g0.2.2.2.2.2.2.2.2.2.2.2.1
  have hd2 : (sN (tI s 7 c 0) (2 * c + 1)).length ≤ 30 := by show (sN s (2 * c + 1)).length ≤ 30; omega
  have hD2 : ∀ j, j < 3 → 12 ≤ Dc c 12 j ∧ Dc c 12 j ≤ 20 := fun j _ => by unfold Dc; split <;> omega
  refine ev_M.go rfl rfl ?_
  refine ev_W.fn rfl rfl ?_
  refine ev_W.obj rfl R.ob rfl ?_
  refine ev_W.fn rfl rfl ?_
  refine ev_W.fn rfl rfl ?_
  refine ev_W.p39 R hc rfl rfl (fun t1 u1 R1 E1 => ?_)
  refine ev_W.fn rfl rfl ?_
  refine ev_W.g12 R1 rfl ?_
  refine ev_W.fn rfl rfl ?_
  refine ev_W.br rfl rfl (fun g1 => ?_) (fun g1 => ?_)
  · refine ev_W.fn rfl rfl ?_
    refine ev_W.g12 R1 rfl ?_
    refine ev_W.fn rfl rfl ?_
    refine ev_W.br rfl rfl (fun g3 => ?_) (fun g3 => ?_)
    · refine ev_W.fn rfl rfl ?_
      refine ev_W.g12 R1 rfl ?_
      refine ev_W.fn rfl rfl ?_
      refine ev_W.br rfl rfl (fun g6 => ?_) (fun g6 => ?_)
      · refine ev_W.fn rfl rfl ?_
        refine ev_W.g12 R1 rfl ?_
        refine ev_W.fn rfl rfl ?_
        refine ev_W.br rfl rfl (fun gA => ?_) (fun gA => ?_)
        · have n4 : ¬ p.1 = 4 := fun q => by rw [q] at gA; exact absurd gA (by decide)
          have n5 : ¬ p.1 = 5 := fun q => by rw [q] at gA; exact absurd gA (by decide)
          have n7 : ¬ p.1 = 7 := fun q => by rw [q] at gA; exact absurd gA (by decide)
          refine ev_W.fn rfl rfl ?_
          refine ev_W.g12 R1 rfl ?_
          refine ev_W.fn rfl rfl ?_
          refine ev_W.br rfl rfl (fun g8 => ?_) (fun g8 => ?_)
          · refine ev_W.fn rfl rfl ?_
            refine ev_W.g12 R1 rfl ?_
            refine ev_W.fn rfl rfl ?_
            refine ev_W.br rfl rfl (fun g10 => ?_) (fun g10 => ?_)
            · refine ev_W.fn rfl rfl ?_
              refine ev_W.g12 R1 rfl ?_
              refine ev_W.fn rfl rfl ?_
              refine ev_W.br rfl rfl (fun g12 => ?_) (fun g12 => ?_)
              · rw [if_neg g1, if_neg g3, if_neg g6, if_neg n4, if_neg n5, if_neg n7, if_neg g8, if_neg g10, if_neg g12] at k
                refine ev_W.fn rfl rfl ?_
                refine ev_W.fn rfl rfl ?_
                refine ev_W.fn rfl rfl ?_
                refine ev_W.clR rfl rfl rfl rfl rfl R1.ob ?_
                refine sp_Z_closeC R1 (a := false) hc hD2 (drop.mono hc (show 11 ≤ 12 by decide) (Nat.le_refl _)).1 drop.2 (Or.inr ⟨by unfold up1; rw [if_pos rfl], by unfold up1; rw [if_pos rfl]⟩) (fun t2 u2 R2 E2 => ?_)
                refine ev_W.ret rfl rfl ?_
                exact k _ _ R2 (E1.tr E2)
              · rw [if_neg g1, if_neg g3, if_neg g6, if_neg n4, if_neg n5, if_neg n7, if_neg g8, if_neg g10, if_pos (Decidable.not_not.mp g12)] at k
                refine ev_W.fn rfl rfl ?_
                refine ev_W.fn rfl rfl ?_
                refine ev_W.fn rfl rfl ?_
                refine ev_W.fn rfl rfl ?_
                refine ev_W.clR rfl rfl rfl rfl rfl R1.ob ?_
                refine sp_Z_answer R1 hc hd2 (by decide) (fun t3 u3 R3 E3 => ?_)
                refine ev_W.fn rfl rfl ?_
                refine ev_W.ret rfl rfl ?_
                exact k _ _ R3 (E1.tr E3)
            · have g10 := Decidable.not_not.mp g10
              rw [if_neg g1, if_neg g3, if_neg g6, if_neg n4, if_neg n5, if_neg n7, if_neg g8, if_pos g10] at k
              refine ev_W.fn rfl rfl ?_
              refine ev_W.fn rfl rfl ?_
              refine ev_W.clR rfl rfl rfl rfl rfl R1.ob ?_
              refine sp_Z_unsubscribed R1 hc g1 (hp.2.2.2.2.1 g10).1 g0 (by decide) (fun t4 u4 R4 E4 => ?_)
              refine ev_W.fn rfl rfl ?_
              refine ev_W.ret rfl rfl ?_
              exact k _ _ R4 (E1.tr E4)
          · have g8 := Decidable.not_not.mp g8
            rw [if_neg g1, if_neg g3, if_neg g6, if_neg n4, if_neg n5, if_neg n7, if_pos g8] at k
            obtain ⟨f8, q8⟩ := hp.2.2.2.1 g8
            refine ev_W.fn rfl rfl ?_
            refine ev_W.fn rfl rfl ?_
            refine ev_W.clR rfl rfl rfl rfl rfl R1.ob ?_
            refine sp_Z_subscribed R1 hc g1 f8 q8 (CI_att (H7.ci hc) g1) drop (fun t5 u5 R5 E5 => ?_)
            refine ev_W.fn rfl rfl ?_
            refine ev_W.ret rfl rfl ?_
            exact k _ _ R5 (E1.tr E5)
        · refine ev_W.fn rfl rfl ?_
          refine ev_W.g12 R1 rfl ?_
          refine ev_W.fn rfl rfl ?_
          refine ev_W.br rfl rfl (fun gB => ?_) (fun gB => ?_)
          · have n4 : ¬ p.1 = 4 := fun q => by rw [q] at gB; exact absurd gB (by decide)
            have n5 : ¬ p.1 = 5 := fun q => by rw [q] at gB; exact absurd gB (by decide)
            have n7 : ¬ p.1 = 7 := fun q => by rw [q] at gB; exact absurd gB (by decide)
            refine ev_W.fn rfl rfl ?_
            refine ev_W.g12 R1 rfl ?_
            refine ev_W.fn rfl rfl ?_
            refine ev_W.br rfl rfl (fun g8 => ?_) (fun g8 => ?_)
            · refine ev_W.fn rfl rfl ?_
              refine ev_W.g12 R1 rfl ?_
              refine ev_W.fn rfl rfl ?_
              refine ev_W.br rfl rfl (fun g10 => ?_) (fun g10 => ?_)
              · refine ev_W.fn rfl rfl ?_
                refine ev_W.g12 R1 rfl ?_
                refine ev_W.fn rfl rfl ?_
                refine ev_W.br rfl rfl (fun g12 => ?_) (fun g12 => ?_)
                · rw [if_neg g1, if_neg g3, if_neg g6, if_neg n4, if_neg n5, if_neg n7, if_neg g8, if_neg g10, if_neg g12] at k
                  refine ev_W.fn rfl rfl ?_
                  refine ev_W.fn rfl rfl ?_
                  refine ev_W.fn rfl rfl ?_
                  refine ev_W.clR rfl rfl rfl rfl rfl R1.ob ?_
                  refine sp_Z_closeC R1 (a := false) hc hD2 (drop.mono hc (show 11 ≤ 12 by decide) (Nat.le_refl _)).1 drop.2 (Or.inr ⟨by unfold up1; rw [if_pos rfl], by unfold up1; rw [if_pos rfl]⟩) (fun t6 u6 R6 E6 => ?_)
                  refine ev_W.ret rfl rfl ?_
                  exact k _ _ R6 (E1.tr E6)
                · rw [if_neg g1, if_neg g3, if_neg g6, if_neg n4, if_neg n5, if_neg n7, if_neg g8, if_neg g10, if_pos (Decidable.not_not.mp g12)] at k
                  refine ev_W.fn rfl rfl ?_
                  refine ev_W.fn rfl rfl ?_
                  refine ev_W.fn rfl rfl ?_
                  refine ev_W.fn rfl rfl ?_
                  refine ev_W.clR rfl rfl rfl rfl rfl R1.ob ?_
                  refine sp_Z_answer R1 hc hd2 (by decide) (fun t7 u7 R7 E7 => ?_)
                  refine ev_W.fn rfl rfl ?_
                  refine ev_W.ret rfl rfl ?_
                  exact k _ _ R7 (E1.tr E7)
              · have g10 := Decidable.not_not.mp g10
                rw [if_neg g1, if_neg g3, if_neg g6, if_neg n4, if_neg n5, if_neg n7, if_neg g8, if_pos g10] at k
                refine ev_W.fn rfl rfl ?_
                refine ev_W.fn rfl rfl ?_
                refine ev_W.clR rfl rfl rfl rfl rfl R1.ob ?_
                refine sp_Z_unsubscribed R1 hc g1 (hp.2.2.2.2.1 g10).1 g0 (by decide) (fun t8 u8 R8 E8 => ?_)
                refine ev_W.fn rfl rfl ?_
                refine ev_W.ret rfl rfl ?_
                exact k _ _ R8 (E1.tr E8)
            · have g8 := Decidable.not_not.mp g8
              rw [if_neg g1, if_neg g3, if_neg g6, if_neg n4, if_neg n5, if_neg n7, if_pos g8] at k
              obtain ⟨f8, q8⟩ := hp.2.2.2.1 g8
              refine ev_W.fn rfl rfl ?_
              refine ev_W.fn rfl rfl ?_
              refine ev_W.clR rfl rfl rfl rfl rfl R1.ob ?_
              refine sp_Z_subscribed R1 hc g1 f8 q8 (CI_att (H7.ci hc) g1) drop (fun t9 u9 R9 E9 => ?_)
              refine ev_W.fn rfl rfl ?_
              refine ev_W.ret rfl rfl ?_
              exact k _ _ R9 (E1.tr E9)
          · have ht : p.1 = 4 ∨ p.1 = 5 ∨ p.1 = 7 := by
              rcases hp.1 with q | q | q | q | q | q | q | q | q | q
              · exact absurd q g1
              · exact absurd q g3
              · exact absurd q g6
              · exact Or.inl q
              · exact Or.inr (Or.inl q)
              · exact Or.inr (Or.inr q)
              · rw [q] at gB; exact absurd (by decide) gB
              · rw [q] at gB; exact absurd (by decide) gB
              · rw [q] at gB; exact absurd (by decide) gB
              · rw [q] at gB; exact absurd (by decide) gB
            have hb : CI 13 l n [] [] (M_ban (tI s 7 c 0) c p) c := by
              unfold M_ban
              rcases ht with q | q | q
              · rw [if_pos q]; exact CI_fin hc _ _ _ (by show (sN s (2 * c + 1)).length ≤ 13; omega) g0
              · rw [if_neg (by rw [q]; decide), if_pos q]; exact CI_sendT (D := 12) (oD_6 _ (hp.2.2.2.2.2.2 q)) (by decide) (by decide) (CI_rel hc _ (by show (sN s (2 * c + 1)).length ≤ 12; omega) g0)
              · rw [if_neg (by rw [q]; decide), if_neg (by rw [q]; decide)]; exact CI_fin hc _ _ _ (by show (sN s (2 * c + 1)).length ≤ 13; omega) g0
            have eb : M_pump (M_ban (tI s 7 c 0) c p) c = if p.1 = 4 then M_pump (tP (tI s 7 c 0) (3 + c) (pa_fin (sP s (3 + c)) p.2.1 1 1)) c else if p.1 = 5 then M_pump (M_send (tP (tI s 7 c 0) (3 + c) (pa_rel (sP s (3 + c)) p.2.1).1) c (mkp 6 p.2.1 0)) c else if p.1 = 7 then M_pump (tP (tI s 7 c 0) (3 + c) (pa_fin (sP s (3 + c)) p.2.1 2 2)) c else if p.1 = 8 then M_rs (tI s 7 c 0) c p.2.2.2.1 p.2.2.1 p.2.2.2.2.2.2.1 else if p.1 = 10 then M_ru (tI s 7 c 0) c p.2.2.2.1 else if p.1 = 12 then M_send (tI s 7 c 0) c (mkp 13 0 0) else M_cn (tI s 7 c 0) c := by
              unfold M_ban
              rcases ht with q | q | q
              · rw [if_pos q, if_pos q]; rfl
              · rw [if_neg (by rw [q]; decide), if_pos q, if_neg (by rw [q]; decide), if_pos q]; rfl
              · rw [if_neg (by rw [q]; decide), if_neg (by rw [q]; decide), if_neg (by rw [q]; decide), if_neg (by rw [q]; decide), if_pos q]; rfl
            rw [if_neg g1, if_neg g3, if_neg g6, ← eb] at k
            refine ev_W.fn rfl rfl ?_
            refine ev_W.fn rfl rfl ?_
            refine ev_W.clR rfl rfl rfl rfl rfl R1.ob ?_
            refine sp_Z_brokerAnswered R1 hc g0 (by decide) ht (fun t10 u10 R10 E10 => ?_)
            refine ev_W.fn rfl rfl ?_
            refine ev_W.fn rfl rfl ?_
            refine ev_W.clR rfl rfl rfl rfl rfl R10.ob ?_
            refine sp_Z_pumpSession R10 hc (show 13 ≤ 20 by decide) hb (fun t11 u11 R11 E11 => ?_)
            refine ev_W.fn rfl rfl ?_
            refine ev_W.ret rfl rfl ?_
            exact k _ _ R11 (E1.tr (E10.tr E11))
      · have g6 := Decidable.not_not.mp g6
        obtain ⟨id, hid, eid⟩ := hp.2.2.2.2.2.1 g6
        rw [if_neg g1, if_neg g3, if_pos g6] at k
        refine ev_W.fn rfl rfl ?_
        refine ev_W.obj rfl R1.ob rfl ?_
        refine ev_W.fn rfl rfl ?_
        refine ev_W.fn rfl rfl ?_
        refine ev_W.fn rfl rfl ?_
        refine ev_W.fn rfl rfl ?_
        refine ev_W.g13 R1 rfl ?_
        refine ev_W.fn rfl rfl ?_
        refine ev_W.fn rfl rfl ?_
        refine ev_W.p55r R1 (j := id) hc (by omega) hk13 (by rw [eid]; exact zma 9 c id) rfl (fun t12 u12 R12 E12 => ?_)
        refine ev_W.fn rfl rfl ?_
        refine ev_W.fn rfl rfl ?_
        refine ev_W.fn rfl rfl ?_
        refine ev_W.fn rfl rfl ?_
        refine ev_W.clR rfl rfl rfl rfl rfl R12.ob ?_
        refine sp_Z_answer R12 hc hd2 (by decide) (fun t13 u13 R13 E13 => ?_)
        refine ev_W.fn rfl rfl ?_
        refine ev_W.ret rfl rfl ?_
        rw [← eid] at R13
        exact k _ _ R13 (E1.tr (E12.tr E13))
    · have g3 := Decidable.not_not.mp g3
      rw [if_neg g1, if_pos g3] at k
      refine ev_W.fn rfl rfl ?_
      refine ev_W.fn rfl rfl ?_
      refine ev_W.clR rfl rfl rfl rfl rfl R1.ob ?_
      refine sp_Z_published R1 hc g3 hp H12 (fun t14 u14 R14 E14 => ?_)
      refine ev_W.fn rfl rfl ?_
      refine ev_W.ret rfl rfl ?_
      exact k _ _ R14 (E1.tr E14)
  · have g1 := Decidable.not_not.mp g1
    rw [if_pos g1] at k
    refine ev_W.fn rfl rfl ?_
    refine ev_W.fn rfl rfl ?_
    refine ev_W.clR rfl rfl rfl rfl rfl R1.ob ?_
    refine sp_Z_opened R1 hc g1 hp (by simp [st_a]) H12 (fun t15 u15 R15 E15 => ?_)
    refine ev_W.fn rfl rfl ?_
    refine ev_W.ret rfl rfl ?_
    exact k _ _ R15 (E1.tr E15)
def M_bdF : Nat → Nat → hb_S → hb_S
  | 0, _, s => s
  | n + 1, i, s => M_bdF n (i + 1) (M_bd1 s i)
theorem bd1_13 {s : hb_S} {i j : Nat} (h : ∃ k, k < 512 ∧ sI s 13 j = nI k) : ∃ k, k < 512 ∧ sI (M_bd1 s i) 13 j = nI k := by
  by_cases e : j = i
  · subst e
    unfold M_bd1 M_outlive
    split
    · exact ⟨0, by decide, by unfold M_end; simp [st_a]; rfl⟩
    · obtain ⟨k, h1, h2⟩ := h
      refine ⟨k, h1, ?_⟩
      rw [← h2]
      have : sI (tI (M_close (tI s 5 j 0) j) 12 j (sI (M_close (tI s 5 j 0) j) 11 j)) 13 j = sI (M_close (tI s 5 j 0) j) 13 j := rfl
      rw [this, close_I (by decide) (by decide)]; rfl
  · rw [(fr_bd1 s i).1 13 j e]; exact h
theorem sp_zcr_loop : ∀ (n i : Nat) (s : hb_S) (t : rf_S) (h : ev_H), i + n = 3 → zR z m0 s p t h → (∀ j, j < 3 → ∃ k, k < 512 ∧ sI s 13 j = nI k) → (∀ t' h', zR z m0 (M_bdF n i s) p t' h' → rf_E m0 h h' → Q (none, h')) → ev_W (mk_Z_crash z) (2, [some (.ref m0), some (.int (nI i))], [], h) Q := by
  intro n
  induction n with
  | zero =>
    intro i s t h hi R _ k
    refine ev_W.fn rfl rfl ?_
    refine ev_W.fn rfl rfl ?_
    refine ev_W.brT rfl rfl (nI_le (a := 3) (by omega) (by omega)) ?_
    refine ev_W.ret rfl rfl ?_
    exact k _ _ R rf_E.rf
  | succ n ih =>
    intro i s t h hin R hk k
    have hi : i < 3 := by omega
    have hc := hi
    rw [M_bdF] at k
    have hk2 : ∃ k, k < 512 ∧ sI (M_close (tI s 5 i 0) i) 13 i = nI k := by rw [close_I (by decide) (by decide)]; exact hk i hi
    have e11 : sI (tI (M_close (tI s 5 i 0) i) 12 i (sI (M_close (tI s 5 i 0) i) 11 i)) 11 i = sI (M_close (tI s 5 i 0) i) 11 i := rfl
    have nxt : ∀ (t' : rf_S) (h' : ev_H), zR z m0 (M_bd1 s i) p t' h' → rf_E m0 h h' → ev_W (mk_Z_crash z) (45, [some (.ref m0), some (.int (nI i))], [], h') Q := by
      intro t' h' R' E'
      refine ev_W.fn rfl rfl ?_
      refine ev_W.fn rfl rfl ?_
      have nx := ih (i + 1) _ _ _ (by omega) R' (fun j hj => bd1_13 (hk j hj)) (fun t2 h2 R2 E2 => k t2 h2 R2 (rf_E.tr E' E2))
      rw [← nI_1] at nx
      exact nx
    refine ev_W.fn rfl rfl ?_
    refine ev_W.fn rfl rfl ?_
    refine ev_W.brF rfl rfl (nI_ge (b := 3) (by omega) (by decide)) ?_
    refine ev_W.fn rfl rfl ?_
    refine ev_W.obj rfl R.ob rfl ?_
    refine ev_W.fn rfl rfl ?_
    refine ev_W.fn rfl rfl ?_
    refine ev_W.p35 R hi (Or.inl rfl) rfl rfl (fun t1 u1 R1 E1 => ?_)
    refine ev_W.fn rfl rfl ?_
    refine ev_W.fn rfl rfl ?_
    refine ev_W.clR rfl rfl rfl rfl rfl R1.ob ?_
    refine sp_Z_closeLink R1 hc (fun t2 u2 R2 E2 => ?_)
    refine ev_W.fn rfl rfl ?_
    refine ev_W.obj rfl R2.ob rfl ?_
    refine ev_W.fn rfl rfl ?_
    refine ev_W.fn rfl rfl ?_
    refine ev_W.obj rfl R2.ob rfl ?_
    refine ev_W.fn rfl rfl ?_
    refine ev_W.g56 R2 hi rfl rfl ?_
    refine ev_W.p57 R2 hi rfl rfl (fun t3 u3 R3 E3 => ?_)
    refine ev_W.fn rfl rfl ?_
    refine ev_W.obj rfl R3.ob rfl ?_
    refine ev_W.fn rfl rfl ?_
    refine ev_W.g56 R3 hi rfl rfl ?_
    refine ev_W.br rfl rfl (fun h1 => ?_) (fun h1 => ?_)
    · rw [e11] at h1
      refine nxt t3 _ ?_ (E1.tr (E2.tr E3))
      unfold M_bd1 M_outlive
      rw [if_neg h1]; exact R3
    · rw [e11] at h1
      refine ev_W.fn rfl rfl ?_
      refine ev_W.fn rfl rfl ?_
      refine ev_W.clR rfl rfl rfl rfl rfl R3.ob ?_
      refine sp_Z_endSession R3 hi hk2 (fun t4 u4 R4 E4 => ?_)
      refine nxt t4 _ ?_ (E1.tr (E2.tr (E3.tr E4)))
      unfold M_bd1 M_outlive
      rw [if_pos (Decidable.not_not.mp h1)]; exact R4
theorem sp_Z_crash (R : zR z m0 s p t h) (hk : ∀ j, j < 3 → ∃ k, k < 512 ∧ sI s 13 j = nI k) (k : ∀ t' h', zR z m0 (M_bd s) p t' h' → rf_E m0 h h' → Q (none, h')) : ev_M (mf_Z_crash z) [.ref m0] h Q := by
  refine ev_M.go rfl rfl ?_
  refine ev_W.fn rfl rfl ?_
  refine ev_W.fn rfl rfl ?_
  exact sp_zcr_loop 3 0 s t h rfl R hk k
theorem i32_sub1 {v : Int32} (h : 1 ≤ v) : v - 1 = 0 ↔ ¬ 0 < v - 1 := by
  have hn : ¬ v < 0 := fun q => by
    have h1 := Int32.le_iff_toInt_le.mp h
    have h2 := Int32.lt_iff_toInt_lt.mp q
    have o1 : (1 : Int32).toInt = 1 := rfl
    have z1 : (0 : Int32).toInt = 0 := rfl
    omega
  obtain ⟨j, hj, rfl⟩ := nI_of hn
  have h1 : 1 ≤ j := (nI_leI (a := 1) (by decide) hj).mp h
  rw [nI_p1 h1]
  have a := nI_eq (a := j - 1) (b := 0) (by omega) (by decide)
  have b := nI_ltI (a := 0) (b := j - 1) (by decide) (by omega)
  constructor
  · intro q w
    have q := a.mp q
    have w := b.mp w
    omega
  · intro q
    exact a.mpr (Nat.eq_zero_of_not_pos (fun w => q (b.mpr w)))
end ZW1
