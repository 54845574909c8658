/-! The reference's broker: closing, opening, publishing (laid by wip/whole/p99h.py). -/
theorem close_t1 (y : hb_S) (c : Nat) : M_close (tI y 1 c 0) c = M_close y c := by
  have e : hb_u2 (hb_u2 (hb_u2 y.1 1 c 0) 0 c 0) 1 c 0 = hb_u2 (hb_u2 y.1 0 c 0) 1 c 0 := by
    funext a b
    unfold hb_u2
    by_cases h1 : a = 1 ∧ b = c
    · rw [if_pos h1, if_pos h1]
    · simp only [h1, if_false]
  unfold M_close
  simp only [tI, tN, e]
theorem beg_eq {s : hb_S} {c : Nat} {p : hb_Pk} (h7 : sI s 7 c = 0) : tI (tJ (tI (tI (tI (tI s 5 c 1) 1 c 1) 6 c p.2.2.2.2.2.2.2.1) 8 c p.2.2.2.2.2.2.2.2.1) 1 c p.2.2.2.1) 9 c p.2.2.2.2.2.2.2.2.2 = tI (M_begin s c p) 1 c 1 := by
  unfold M_begin
  have e : hb_u2 (hb_u2 (hb_u2 (hb_u2 (hb_u2 s.1 5 c 1) 1 c 1) 6 c p.2.2.2.2.2.2.2.1) 8 c p.2.2.2.2.2.2.2.2.1) 9 c p.2.2.2.2.2.2.2.2.2 = hb_u2 (hb_u2 (hb_u2 (hb_u2 (hb_u2 (hb_u2 s.1 5 c 1) 6 c p.2.2.2.2.2.2.2.1) 7 c 0) 8 c p.2.2.2.2.2.2.2.2.1) 9 c p.2.2.2.2.2.2.2.2.2) 1 c 1 := by
    funext a b
    unfold hb_u2
    by_cases hb : b = c
    · subst hb
      by_cases h9 : a = 9
      · subst h9; simp
      · by_cases h8 : a = 8
        · subst h8; simp
        · by_cases h6 : a = 6
          · subst h6; simp
          · by_cases h1 : a = 1
            · subst h1; simp
            · by_cases h5 : a = 5
              · subst h5; simp
              · by_cases h7' : a = 7
                · subst h7'; simp; exact h7
                · simp [h9, h8, h6, h1, h5, h7']
    · simp [hb]
  simp only [tI, tJ, e]
theorem acc_I (s : hb_S) (c : Nat) (m : hb_Ms) (hb : ∀ j, j < 3 → ba 20 s j) : sI (M_acc s c m).1 = sI s := by
  unfold M_acc
  split
  · rename_i h
    have h1 := M_spF_ok c m 3 0 s
    have h2 := M_retain_ok (M_spF c m 3 0 s) m
    have hb2 : ∀ j, j < 3 → ba 20 (M_ret (M_spF c m 3 0 s) m) j := fun j hj => M_mid_ba (by decide) hj h (hb j hj)
    exact ((M_puF_na (j := 0) (by decide) 3 0 _ rfl hb2).2).trans (h2.1.trans h1.1)
  · rfl
theorem cn_7 (s : hb_S) (c : Nat) : sI (M_cn s c) 7 c = sI s 7 c := by
  unfold M_cn M_outlive M_close M_end
  split <;> split <;> simp [st_a]
theorem ca_7 {D L : Nat → Nat} {n c : Nat} {X Y : Nat → List hb_Pk} {s : hb_S} (hD : ∀ j, j < 3 → D j ≤ 20) (A : AI D L n X Y (M_cn s c)) : sI (M_ca s c) 7 c = sI s 7 c := by
  unfold M_ca
  split
  · exact cn_7 s c
  · rw [acc_I _ _ _ (fun j hj => ba.mono (A j hj).2.2.2.2.2.1 (hD j hj))]; exact cn_7 s c
section ZB
variable {z : Nat × Nat} {m0 : Nat} {s : hb_S} {p : hb_Pk} {t : rf_S} {h : ev_H} {Q : ev_O → Prop} {c l : Nat}
theorem sp_Z_closeC {a : Bool} {D Lu : Nat → Nat} {N : Nat} {X Y : Nat → List hb_Pk} (R : zR z m0 s p t h) (hc : c < 3) (hD : ∀ j, j < 3 → 12 ≤ D j ∧ D j ≤ 20) (A : AI D Lu N X Y s) (hr : RI s) (hx : sI s 1 c = 0 ∨ (X c = [] ∧ Y c = [])) (k : ∀ t' h', zR z m0 (if a = true then M_ca s c else M_cn s c) p t' h' → rf_E m0 h h' → Q (none, h')) : ev_M (mf_Z_closeConnection z) [.ref m0, .int (nI c), .int (zb a)] h Q := by
  have A1 : AI D Lu N X Y (M_cn s c) := by
    refine AI_one hc (fr_cn s c) A ?_
    rcases hx with g | ⟨h1, h2⟩
    · exact CI_cn0 g (A c hc)
    · have := A c hc
      rw [h1, h2] at this ⊢
      exact CI_cn this
  have hk13 := (A c hc).2.2.2.2.2.2.2.2.2.2.2.1
  have hw := (A1 c hc).2.2.2.2.2.2.2.2.2.2.2.2.2.2.1
  have hwr : tx_read (sJ (M_cn s c) 1 c) = sJ (M_cn s c) 1 c := by
    rcases hw with g | g
    · rw [g]; decide +kernel
    · exact g.1
  -- the will
  have wil : ∀ (t' : rf_S) (h' : ev_H) (y3 : Option Value), zR z m0 (M_cn s c) p t' h' → rf_E m0 h h' → ev_W (mk_Z_closeConnection z) (56, [some (.ref m0), some (.int (nI c)), some (.int (zb a)), y3], [], h') Q := by
    intro t' h' y3 R' E'
    refine ev_W.fn rfl rfl ?_
    refine ev_W.br rfl rfl (fun h1 => ?_) (fun h1 => ?_)
    · refine ev_W.ret rfl rfl ?_
      rw [if_neg (by rw [zb_n0.mp h1]; decide)] at k
      exact k _ _ R' E'
    · rw [if_pos (zb_1.mp h1)] at k
      unfold M_ca at k
      refine ev_W.fn rfl rfl ?_
      refine ev_W.obj rfl R'.ob rfl ?_
      refine ev_W.fn rfl rfl ?_
      refine ev_W.g40 R' hc rfl rfl ?_
      refine ev_W.fn rfl rfl ?_
      refine ev_W.fn rfl rfl ?_
      refine ev_W.br rfl rfl (fun h2 => ?_) (fun h2 => ?_)
      · refine ev_W.ret rfl rfl ?_
        rw [if_pos ((pl_0 hwr).mp (lc_eq h2))] at k
        exact k _ _ R' E'
      · have h2 : ¬ sJ (M_cn s c) 1 c = 0 := fun g => lc_ne h2 ((pl_0 hwr).mpr g)
        rw [if_neg h2] at k
        refine ev_W.fn rfl rfl ?_
        refine ev_W.fn rfl rfl ?_
        refine ev_W.fn rfl rfl ?_
        refine ev_W.obj rfl R'.ob rfl ?_
        refine ev_W.fn rfl rfl ?_
        refine ev_W.g40 R' hc rfl rfl ?_
        refine ev_W.fn rfl rfl ?_
        refine ev_W.obj rfl R'.ob rfl ?_
        refine ev_W.fn rfl rfl ?_
        refine ev_W.g41 R' hc rfl rfl ?_
        refine ev_W.fn rfl rfl ?_
        refine ev_W.fn rfl rfl ?_
        refine ev_W.clR rfl rfl rfl rfl rfl R'.ob ?_
        refine sp_Z_accept R' (b := false) hc (hw.resolve_left h2) (Or.inr (Or.inl rfl)) hD A1 (RI_fr hc (fr_cn s c) hr) (fun t1 u1 R1 E1 => ?_)
        refine ev_W.fn rfl rfl ?_
        refine ev_W.ret rfl rfl ?_
        exact k _ _ R1 (rf_E.tr E' (E1))
  -- the count
  have cnt : ∀ (s2 : hb_S) (t' : rf_S) (h' : ev_H) (y3 : Option Value), zR z m0 s2 p t' h' → rf_E m0 h h' → M_outlive s2 c = M_cn s c → (∃ k, k < 512 ∧ sI s2 13 c = nI k) → ev_W (mk_Z_closeConnection z) (30, [some (.ref m0), some (.int (nI c)), some (.int (zb a)), y3], [], h') Q := by
    intro s2 t' h' y3 R' E' e hk
    have e11 : sI (tI s2 12 c (sI s2 11 c)) 11 c = sI s2 11 c := rfl
    refine ev_W.fn rfl rfl ?_
    refine ev_W.obj rfl R'.ob rfl ?_
    refine ev_W.fn rfl rfl ?_
    refine ev_W.fn rfl rfl ?_
    refine ev_W.obj rfl R'.ob rfl ?_
    refine ev_W.fn rfl rfl ?_
    refine ev_W.g56 R' hc rfl rfl ?_
    refine ev_W.p57 R' hc rfl rfl (fun t1 u1 R1 E1 => ?_)
    refine ev_W.fn rfl rfl ?_
    refine ev_W.obj rfl R1.ob rfl ?_
    refine ev_W.fn rfl rfl ?_
    refine ev_W.g56 R1 hc rfl rfl ?_
    refine ev_W.br rfl rfl (fun h1 => ?_) (fun h1 => ?_)
    · refine wil t1 _ _ ?_ (rf_E.tr E' (E1))
      rw [e11] at h1
      rw [← e]; unfold M_outlive; rw [if_neg h1]; exact R1
    · refine ev_W.fn rfl rfl ?_
      refine ev_W.fn rfl rfl ?_
      refine ev_W.clR rfl rfl rfl rfl rfl R1.ob ?_
      refine sp_Z_endSession R1 hc hk (fun t2 u2 R2 E2 => ?_)
      refine wil t2 _ _ ?_ (rf_E.tr E' ((E1.tr E2)))
      rw [e11] at h1
      rw [← e]; unfold M_outlive; rw [if_pos (Decidable.not_not.mp h1)]; exact R2
  refine ev_M.go rfl rfl ?_
  refine ev_W.fn rfl rfl ?_
  refine ev_W.obj rfl R.ob rfl ?_
  refine ev_W.fn rfl rfl ?_
  refine ev_W.g36 R hc rfl rfl ?_
  refine ev_W.fn rfl rfl ?_
  refine ev_W.fn rfl rfl ?_
  refine ev_W.obj rfl R.ob rfl ?_
  refine ev_W.fn rfl rfl ?_
  refine ev_W.fn rfl rfl ?_
  refine ev_W.p35 R hc (Or.inl rfl) rfl rfl (fun t1 u1 R1 E1 => ?_)
  refine ev_W.fn rfl rfl ?_
  refine ev_W.obj rfl R1.ob rfl ?_
  refine ev_W.fn rfl rfl ?_
  refine ev_W.fn rfl rfl ?_
  refine ev_W.p36 R1 hc (Or.inl rfl) rfl rfl (fun t2 u2 R2 E2 => ?_)
  refine ev_W.fn rfl rfl ?_
  refine ev_W.br rfl rfl (fun h1 => ?_) (fun h1 => ?_)
  · refine cnt (tI s 5 c 0) t2 _ _ ?_ (E1.tr E2) ?_ hk13
    · have e : tI (tI s 5 c 0) 1 c 0 = tI s 5 c 0 := tI_id (by show 0 = sI s 1 c; rw [h1])
      rw [← e]; exact R2
    · unfold M_cn; rw [if_pos h1]
  · refine ev_W.fn rfl rfl ?_
    refine ev_W.fn rfl rfl ?_
    refine ev_W.clR rfl rfl rfl rfl rfl R2.ob ?_
    refine sp_Z_closeLink R2 hc (fun t3 u3 R3 E3 => ?_)
    rw [close_t1] at R3
    refine cnt (M_close (tI s 5 c 0) c) _ _ _ R3 (E1.tr (E2.tr E3)) ?_ ?_
    · unfold M_cn; rw [if_neg h1]
    · rw [close_I (by decide) (by decide)]; exact hk13
theorem sp_Z_answer {ty v : Int32} (R : zR z m0 s p t h) (hc : c < 3) (h30 : (sN s (2 * c + 1)).length ≤ 30) (h1 : ¬ ty = 1) (k : ∀ t' h', zR z m0 (M_send s c (mkp ty (if ty = 4 ∨ ty = 5 ∨ ty = 6 ∨ ty = 7 then p.2.1 else 0) v)) p t' h' → rf_E m0 h h' → Q (none, h')) : ev_M (mf_Z_answer z) [.ref m0, .int (nI c), .int ty, .int v] h Q := by
  have e2 : (2 : Int32) * nI c + 1 = nI (2 * c + 1) := zma1 2 c
  unfold M_send at k
  refine ev_M.go rfl rfl ?_
  refine ev_W.fn rfl rfl ?_
  refine ev_W.obj rfl R.ob rfl ?_
  refine ev_W.fn rfl rfl ?_
  refine ev_W.g36 R hc rfl rfl ?_
  refine ev_W.br rfl rfl (fun g1 => ?_) (fun g1 => ?_)
  · refine ev_W.ret rfl rfl ?_
    rw [if_pos g1] at k
    exact k _ _ R rf_E.rf
  · rw [if_neg g1] at k
    refine ev_W.fn rfl rfl ?_
    refine ev_W.fn rfl rfl ?_
    refine ev_W.fn rfl rfl ?_
    refine ev_W.fn rfl rfl ?_
    refine ev_W.fn rfl rfl ?_
    refine ev_W.fn rfl rfl ?_
    refine ev_W.fn rfl rfl ?_
    refine ev_W.fn rfl rfl ?_
    refine ev_W.fn rfl rfl ?_
    refine ev_W.br rfl rfl (fun g4 => ?_) (fun g4 => ?_)
    · rw [if_pos (Or.inl g4)] at k
      refine ev_W.fn rfl rfl ?_
      refine ev_W.g13 R rfl ?_
      refine ev_W.fn rfl rfl ?_
      refine ev_W.fn rfl rfl ?_
      refine ev_W.clR rfl rfl rfl rfl rfl R.ob ?_
      rw [e2]
      refine sp_Z_send R (l := 2 * c + 1) (by omega) h30 h1 (fun t1 u1 R1 E1 => ?_)
      refine ev_W.fn rfl rfl ?_
      refine ev_W.ret rfl rfl ?_
      exact k _ _ R1 E1
    · refine ev_W.fn rfl rfl ?_
      refine ev_W.fn rfl rfl ?_
      refine ev_W.br rfl rfl (fun g5 => ?_) (fun g5 => ?_)
      · rw [if_pos (Or.inr (Or.inl g5))] at k
        refine ev_W.fn rfl rfl ?_
        refine ev_W.g13 R rfl ?_
        refine ev_W.fn rfl rfl ?_
        refine ev_W.fn rfl rfl ?_
        refine ev_W.clR rfl rfl rfl rfl rfl R.ob ?_
        rw [e2]
        refine sp_Z_send R (l := 2 * c + 1) (by omega) h30 h1 (fun t2 u2 R2 E2 => ?_)
        refine ev_W.fn rfl rfl ?_
        refine ev_W.ret rfl rfl ?_
        exact k _ _ R2 E2
      · refine ev_W.fn rfl rfl ?_
        refine ev_W.fn rfl rfl ?_
        refine ev_W.br rfl rfl (fun g6 => ?_) (fun g6 => ?_)
        · rw [if_pos (Or.inr (Or.inr (Or.inl g6)))] at k
          refine ev_W.fn rfl rfl ?_
          refine ev_W.g13 R rfl ?_
          refine ev_W.fn rfl rfl ?_
          refine ev_W.fn rfl rfl ?_
          refine ev_W.clR rfl rfl rfl rfl rfl R.ob ?_
          rw [e2]
          refine sp_Z_send R (l := 2 * c + 1) (by omega) h30 h1 (fun t3 u3 R3 E3 => ?_)
          refine ev_W.fn rfl rfl ?_
          refine ev_W.ret rfl rfl ?_
          exact k _ _ R3 E3
        · refine ev_W.fn rfl rfl ?_
          refine ev_W.fn rfl rfl ?_
          refine ev_W.br rfl rfl (fun g7 => ?_) (fun g7 => ?_)
          · rw [if_neg (fun q => q.elim g4 (fun q => q.elim g5 (fun q => q.elim g6 g7)))] at k
            refine ev_W.fn rfl rfl ?_
            refine ev_W.fn rfl rfl ?_
            refine ev_W.clR rfl rfl rfl rfl rfl R.ob ?_
            rw [e2]
            refine sp_Z_send R (l := 2 * c + 1) (by omega) h30 h1 (fun t4 u4 R4 E4 => ?_)
            refine ev_W.fn rfl rfl ?_
            refine ev_W.ret rfl rfl ?_
            exact k _ _ R4 E4
          · rw [if_pos (Or.inr (Or.inr (Or.inr (Decidable.not_not.mp g7))))] at k
            refine ev_W.fn rfl rfl ?_
            refine ev_W.g13 R rfl ?_
            refine ev_W.fn rfl rfl ?_
            refine ev_W.fn rfl rfl ?_
            refine ev_W.clR rfl rfl rfl rfl rfl R.ob ?_
            rw [e2]
            refine sp_Z_send R (l := 2 * c + 1) (by omega) h30 h1 (fun t5 u5 R5 E5 => ?_)
            refine ev_W.fn rfl rfl ?_
            refine ev_W.ret rfl rfl ?_
            exact k _ _ R5 E5
theorem sp_zop_loop (hc : c < 3) : ∀ (B A : List hb_Pa) (s : hb_S) (t : rf_S) (h : ev_H) (y3 : Option Value), zR z m0 s p t h → sP s (3 + c) = A ++ B → (∀ x, x ∈ B → oA x) → ¬ sI s 1 c = 0 → A.length + B.length ≤ 3 → (sN s (2 * c + 1)).length + B.length ≤ 30 → (∀ t' h' (y2 y3 : Option Value), zR z m0 (M_agF B s c) p t' h' → rf_E m0 h h' → ev_W (mk_Z_opened z) (182, [some (.ref m0), some (.int (nI c)), y2, y3], [], h') Q) → ev_W (mk_Z_opened z) (120, [some (.ref m0), some (.int (nI c)), some (.int (nI A.length)), y3], [], h) Q := by
  intro B
  induction B with
  | nil =>
    intro A s t h y3 R hs _ _ h3 hu k
    rw [List.append_nil] at hs
    refine ev_W.fn rfl rfl ?_
    refine ev_W.fn rfl rfl ?_
    refine ev_W.obj rfl R.ob rfl ?_
    refine ev_W.fn rfl rfl ?_
    refine ev_W.g47 R hc rfl rfl ?_
    refine ev_W.brT rfl rfl (nI_le (by rw [hs]; exact Nat.le_refl _) (by simp at h3; omega)) ?_
    exact k _ _ _ _ R rf_E.rf
  | cons x B ih =>
    intro A s t h y3 R hs hB hat h3 hu k
    have e2 : (2 : Int32) * nI c + 1 = nI (2 * c + 1) := zma1 2 c
    have hL : (sP s (3 + c)).length = A.length + 1 + B.length := by rw [hs]; simp; omega
    have hx : (sP s (3 + c))[A.length]? = some x := by rw [hs]; simp
    have hP := hB x List.mem_cons_self
    rw [List.length_cons] at h3 hu
    have eS : M_send s c (pa_rp x) = tN s (2 * c + 1) (sN s (2 * c + 1) ++ [pa_rp x]) := by unfold M_send; exact if_neg hat
    have go : ∀ (t' : rf_S) (h' : ev_H) (y : Option Value), zR z m0 (tN s (2 * c + 1) (sN s (2 * c + 1) ++ [pa_rp x])) p t' h' → rf_E m0 h h' → ev_W (mk_Z_opened z) (176, [some (.ref m0), some (.int (nI c)), some (.int (nI A.length)), y], [], h') Q := by
      intro t' h' y R' E'
      refine ev_W.fn rfl rfl ?_
      refine ev_W.fn rfl rfl ?_
      have nx := ih (A ++ [x]) _ t' h' y R' (by show sP s (3 + c) = _; rw [hs]; simp) (fun a ha => hB a (List.mem_cons_of_mem _ ha)) hat (by simp; omega) (by rw [sN_tN]; simp; omega) (fun t2 h2 y2 y3 R2 E2 => k t2 h2 y2 y3 (by rw [M_agF, eS]; exact R2) (rf_E.tr E' E2))
      rw [List.length_append] at nx
      have e3 : nI (A.length + [x].length) = nI A.length + 1 := (nI_1 _).symm
      rw [e3] at nx
      exact nx
    refine ev_W.fn rfl rfl ?_
    refine ev_W.fn rfl rfl ?_
    refine ev_W.obj rfl R.ob rfl ?_
    refine ev_W.fn rfl rfl ?_
    refine ev_W.g47 R hc rfl rfl ?_
    refine ev_W.brF rfl rfl (nI_ge (by omega) (by omega)) ?_
    refine ev_W.fn rfl rfl ?_
    refine ev_W.fn rfl rfl ?_
    refine ev_W.fn rfl rfl ?_
    refine ev_W.fn rfl rfl ?_
    refine ev_W.fn rfl rfl ?_
    refine ev_W.fn rfl rfl ?_
    refine ev_W.fn rfl rfl ?_
    refine ev_W.obj rfl R.ob rfl ?_
    refine ev_W.fn rfl rfl ?_
    refine ev_W.g53 R hc hx (zma 8 c _) rfl ?_
    refine ev_W.fn rfl rfl ?_
    refine ev_W.br rfl rfl (fun h1 => ?_) (fun h1 => ?_)
    · refine ev_W.fn rfl rfl ?_
      refine ev_W.fn rfl rfl ?_
      refine ev_W.fn rfl rfl ?_
      refine ev_W.fn rfl rfl ?_
      refine ev_W.fn rfl rfl ?_
      refine ev_W.fn rfl rfl ?_
      refine ev_W.fn rfl rfl ?_
      refine ev_W.fn rfl rfl ?_
      refine ev_W.obj rfl R.ob rfl ?_
      refine ev_W.fn rfl rfl ?_
      refine ev_W.g54 R hc hx (zma 8 c _) rfl ?_
      refine ev_W.fn rfl rfl ?_
      refine ev_W.clR rfl rfl rfl rfl rfl R.ob ?_
      rw [e2]
      refine sp_Z_send R (l := 2 * c + 1) (by omega) (by omega) (by decide) (fun t1 u1 R1 E1 => ?_)
      refine ev_W.fn rfl rfl ?_
      refine go t1 _ _ ?_ E1
      unfold pa_rp; rw [if_neg h1]; exact R1
    · refine ev_W.fn rfl rfl ?_
      refine ev_W.fn rfl rfl ?_
      refine ev_W.fn rfl rfl ?_
      refine ev_W.fn rfl rfl ?_
      refine ev_W.clR rfl rfl rfl rfl rfl R.ob ?_
      refine sp_Z_sendHere R (a := true) hc hx (zma 8 c _) (by omega) (fun t2 u2 R2 E2 => ?_)
      refine ev_W.fn rfl rfl ?_
      refine go t2 _ _ ?_ E2
      unfold pa_rp; rw [if_pos (Decidable.not_not.mp h1)]; exact R2
theorem sp_Z_opened {l n : Nat} (R : zR z m0 s p t h) (hc : c < 3) (h1 : p.1 = 1) (hp : oU p) (h7 : sI s 7 c = 0) (H : HI 12 l n c [p] [] s) (k : ∀ t' h', zR z m0 (M_rc (if sI s 5 c = 0 then s else M_ca s c) c p) p t' h' → rf_E m0 h h' → Q (none, h')) : ev_M (mf_Z_opened z) [.ref m0, .int (nI c)] h Q := by
  have hat : sI s 1 c = 0 := by
    apply Classical.byContradiction
    intro q
    have := (H.ci hc).2.2.1.2.2.2.2.2.1 q
    rw [List.singleton_append, List.countP_cons, show isC p = true from decide_eq_true h1] at this
    simp at this
  have hD : ∀ j, j < 3 → 12 ≤ Dc c 12 j ∧ Dc c 12 j ≤ 20 := fun j _ => by unfold Dc; split <;> omega
  -- from where the old connection is shut
  have opn : ∀ (s1 : hb_S) (t' : rf_S) (h' : ev_H), zR z m0 s1 p t' h' → rf_E m0 h h' → s1 = (if sI s 5 c = 0 then s else M_ca s c) → HI 12 l n c [p] [] s1 → sI s1 7 c = 0 → ev_W (mk_Z_opened z) (15, [some (.ref m0), some (.int (nI c)), none, none], [], h') Q := by
    intro s1 t' h' R E' e1 H1 g7
    rw [← e1] at k
    have g := H1.ci hc
    obtain ⟨g0, gst, gz, gd⟩ := CI_rc0 (va := p.2.2.1) h1 hp (hp.2.1 h1).1 g
    have eN := (rc0_P s1 c p).1
    have est := (rc0_P s1 c p).2
    have hk13 := g.2.2.2.2.2.2.2.2.2.2.2.1
    have g2 := CI_sendK (v := if sI (M_rc0 s1 c p) 10 c = 0 then 0 else 1) (by show sI (M_rc0 s1 c p) 0 c = 1; rw [est]; exact gst) (by show (sN (M_rc0 s1 c p) (2 * c)).countP isC + (sN (M_rc0 s1 c p) (2 * c + 1)).countP isK = 0; rw [eN]; exact gz) g0
    have hA : ∀ a, a ∈ sP (M_rc0 s1 c p) (3 + c) → oA a := g0.2.2.2.2.1.1
    have hL : (sP (M_rc0 s1 c p) (3 + c)).length ≤ 3 := g0.2.2.2.2.2.1.2.2.2.2
    have eat : ¬ sI (M_rc0 s1 c p) 1 c = 0 := by unfold M_rc0 M_end M_begin; split <;> simp [st_a]
    -- from the answer on
    have ans : ∀ (t2 : rf_S) (h2 : ev_H), zR z m0 (M_rc0 s1 c p) p t2 h2 → rf_E m0 h h2 → ev_W (mk_Z_opened z) (81, [some (.ref m0), some (.int (nI c)), none, none], [], h2) Q := by
      intro t2 h2 R2 E20
      have hd0 : (sN (M_rc0 s1 c p) (2 * c + 1)).length ≤ 30 := by rw [eN, gd]; exact Nat.zero_le _
      have rest : ∀ (t3 : rf_S) (h3 : ev_H), zR z m0 (M_send (M_rc0 s1 c p) c (mkp 2 0 (if sI (M_rc0 s1 c p) 10 c = 0 then 0 else 1))) p t3 h3 → rf_E m0 h h3 → ev_W (mk_Z_opened z) (101, [some (.ref m0), some (.int (nI c)), none, none], [], h3) Q := by
        intro t3 h3 R3 E3
        have e5 : sP (M_rc1 (M_rc0 s1 c p) c p.2.2.1) (3 + c) = sP (M_rc0 s1 c p) (3 + c) := by
          show sP (M_send _ _ _) (3 + c) = _
          rw [sP_send]
        have e6 : (sN (M_rc1 (M_rc0 s1 c p) c p.2.2.1) (2 * c + 1)).length ≤ 1 := by
          show (sN (M_send _ _ _) (2 * c + 1)).length ≤ 1
          have := sN_send_len (M_rc0 s1 c p) c (mkp 2 0 (if sI (M_rc0 s1 c p) 10 c = 0 then 0 else 1))
          rw [eN, gd] at this
          exact this
        have e7 : ¬ sI (M_rc1 (M_rc0 s1 c p) c p.2.2.1) 1 c = 0 := by
          show ¬ sI (M_send _ _ _) 1 c = 0
          rw [sI_send]; exact eat
        refine ev_W.fn rfl rfl ?_
        refine ev_W.obj rfl R3.ob rfl ?_
        refine ev_W.fn rfl rfl ?_
        refine ev_W.fn rfl rfl ?_
        refine ev_W.p42 R3 hc (Or.inr rfl) rfl rfl (fun t1 u1 R1 E1 => ?_)
        refine ev_W.fn rfl rfl ?_
        refine ev_W.obj rfl R1.ob rfl ?_
        refine ev_W.fn rfl rfl ?_
        refine ev_W.fn rfl rfl ?_
        refine ev_W.g14 R1 rfl ?_
        refine ev_W.p56 R1 hc rfl rfl (fun t2 u2 R2 E2 => ?_)
        refine ev_W.fn rfl rfl ?_
        refine ev_W.fn rfl rfl ?_
        refine sp_zop_loop hc (sP (M_rc0 s1 c p) (3 + c)) [] (M_rc1 (M_rc0 s1 c p) c p.2.2.1) _ _ _ R2 (by rw [e5]; rfl) hA e7 (by simp; omega) (by omega) (fun t4 h4 y2 y3 R4 E4 => ?_)
        have g3 : CI (1 + (sP (M_rc0 s1 c p) (3 + c)).length) l n [] [] (M_agF (sP (M_rc0 s1 c p) (3 + c)) (M_rc1 (M_rc0 s1 c p) c p.2.2.1) c) c := by
          rw [rc1_eq]; exact CI_agF _ _ _ hA g2
        refine ev_W.fn rfl rfl ?_
        refine ev_W.fn rfl rfl ?_
        refine ev_W.clR rfl rfl rfl rfl rfl R4.ob ?_
        refine sp_Z_pumpSession R4 hc (by omega) g3 (fun t5 h5 R5 E5 => ?_)
        refine ev_W.ret rfl rfl ?_
        exact k _ _ R5 (rf_E.tr E3 (rf_E.tr ((E1.tr E2)) (rf_E.tr E4 E5)))
      refine ev_W.fn rfl rfl ?_
      refine ev_W.fn rfl rfl ?_
      refine ev_W.fn rfl rfl ?_
      refine ev_W.fn rfl rfl ?_
      refine ev_W.obj rfl R2.ob rfl ?_
      refine ev_W.fn rfl rfl ?_
      refine ev_W.g42 R2 hc rfl rfl ?_
      refine ev_W.br rfl rfl (fun g10 => ?_) (fun g10 => ?_)
      · refine ev_W.fn rfl rfl ?_
        refine ev_W.clR rfl rfl rfl rfl rfl R2.ob ?_
        refine sp_Z_answer R2 hc hd0 (by decide) (fun t1 u1 R1 E1 => ?_)
        rw [if_pos g10] at rest
        exact rest _ _ R1 (rf_E.tr E20 E1)
      · refine ev_W.fn rfl rfl ?_
        refine ev_W.fn rfl rfl ?_
        refine ev_W.clR rfl rfl rfl rfl rfl R2.ob ?_
        refine sp_Z_answer R2 hc hd0 (by decide) (fun t2 u2 R2 E2 => ?_)
        rw [if_neg g10] at rest
        exact rest _ _ R2 (rf_E.tr E20 E2)
    refine ev_W.fn rfl rfl ?_
    refine ev_W.obj rfl R.ob rfl ?_
    refine ev_W.fn rfl rfl ?_
    refine ev_W.fn rfl rfl ?_
    refine ev_W.p35 R hc (Or.inr rfl) rfl rfl (fun t1 u1 R1 E1 => ?_)
    refine ev_W.fn rfl rfl ?_
    refine ev_W.obj rfl R1.ob rfl ?_
    refine ev_W.fn rfl rfl ?_
    refine ev_W.fn rfl rfl ?_
    refine ev_W.p36 R1 hc (Or.inr rfl) rfl rfl (fun t2 u2 R2 E2 => ?_)
    refine ev_W.fn rfl rfl ?_
    refine ev_W.obj rfl R2.ob rfl ?_
    refine ev_W.fn rfl rfl ?_
    refine ev_W.fn rfl rfl ?_
    refine ev_W.g18 R2 h1 rfl ?_
    refine ev_W.p37 R2 hc rfl rfl (fun t3 u3 R3 E3 => ?_)
    refine ev_W.fn rfl rfl ?_
    refine ev_W.obj rfl R3.ob rfl ?_
    refine ev_W.fn rfl rfl ?_
    refine ev_W.fn rfl rfl ?_
    refine ev_W.g19 R3 h1 rfl ?_
    refine ev_W.p38 R3 hc rfl rfl (fun t4 u4 R4 E4 => ?_)
    refine ev_W.fn rfl rfl ?_
    refine ev_W.obj rfl R4.ob rfl ?_
    refine ev_W.fn rfl rfl ?_
    refine ev_W.fn rfl rfl ?_
    refine ev_W.g20 R4 h1 rfl ?_
    refine ev_W.p40 R4 hc rfl rfl rfl (fun t5 u5 R5 E5 => ?_)
    refine ev_W.fn rfl rfl ?_
    refine ev_W.obj rfl R5.ob rfl ?_
    refine ev_W.fn rfl rfl ?_
    refine ev_W.fn rfl rfl ?_
    refine ev_W.g21 R5 h1 rfl ?_
    refine ev_W.p41 R5 hc rfl rfl (fun t6 u6 R6 E6 => ?_)
    rw [beg_eq g7] at R6
    refine ev_W.fn rfl rfl ?_
    refine ev_W.g16 R6 rfl ?_
    refine ev_W.br rfl rfl (fun hm => ?_) (fun hm => ?_)
    · refine ans t6 _ ?_ (rf_E.tr E' ((E1.tr (E2.tr (E3.tr (E4.tr (E5.tr E6)))))))
      unfold M_rc0; rw [if_neg (by rw [zb_n0.mp hm]; decide)]; exact R6
    · refine ev_W.fn rfl rfl ?_
      refine ev_W.fn rfl rfl ?_
      refine ev_W.clR rfl rfl rfl rfl rfl R6.ob ?_
      refine sp_Z_endSession R6 hc (by have := hk13; simpa [M_begin, st_a] using this) (fun t9 h9 R9 E9 => ?_)
      refine ans t9 _ ?_ (rf_E.tr E' (rf_E.tr ((E1.tr (E2.tr (E3.tr (E4.tr (E5.tr E6)))))) E9))
      unfold M_rc0; rw [if_pos (zb_1.mp hm)]; exact R9
  refine ev_M.go rfl rfl ?_
  refine ev_W.fn rfl rfl ?_
  refine ev_W.obj rfl R.ob rfl ?_
  refine ev_W.fn rfl rfl ?_
  refine ev_W.g35 R hc rfl rfl ?_
  refine ev_W.br rfl rfl (fun h5 => ?_) (fun h5 => ?_)
  · exact opn s _ _ R rf_E.rf (by rw [if_pos h5]) H h7
  · refine ev_W.fn rfl rfl ?_
    refine ev_W.fn rfl rfl ?_
    refine ev_W.fn rfl rfl ?_
    refine ev_W.clR rfl rfl rfl rfl rfl R.ob ?_
    refine sp_Z_closeC R (a := true) hc hD H.1 H.2 (Or.inl hat) (fun t1 u1 R1 E1 => ?_)
    have e1 : (if true = true then M_ca s c else M_cn s c) = M_ca s c := if_pos rfl
    rw [e1] at R1
    have B := AI_ca hc (fun j hj => (hD j hj).1) (Or.inl hat) H.1 H.2
    have A1 : AI (Dc c 12) (fun j => if j = c then l else 19) n (up1 (fun _ => []) c [p]) (up1 (fun _ => []) c []) (M_cn s c) := AI_one hc (fr_cn s c) H.1 (CI_cn0 hat (H.1 c hc))
    exact opn _ _ _ R1 E1 (by rw [if_neg h5]) B (by rw [ca_7 (fun j hj => (hD j hj).2) A1]; exact h7)
end ZB
