/-! The reference retains and accepts (laid by wip/whole/p99f.py). -/
section ZQ
variable {z : Nat × Nat} {m0 : Nat} {s : hb_S} {p : hb_Pk} {t : rf_S} {h : ev_H} {Q : ev_O → Prop} {c l : Nat}
theorem sp_Z_fitsR {f T : Int64} (R : zR z m0 s p t h) (hf : ftr f) (ht : tpc T) (k : ∀ t' h', zR z m0 (s) p t' h' → rf_E m0 h h' → Q (some (.int (zb (tc_cov f T))), h')) : ev_M (mf_Z_fits z) [.ref m0, .long (tz_pl f), .long (tz_pl T)] h Q := by
  rw [← fit_cov hf ht] at k
  exact sp_Z_fits R.1 (ftr_len hf) (tpc_len ht) (fun t' h' P E S => k t' h' ⟨P, R.2.1.sc S, R.2.2.1.sc S, R.2.2.2⟩ E)
theorem sp_Z_lesser {a b : Int32} (k : Q (some (.int (if a < b then a else b)), h)) : ev_M (mf_Z_lesser z) [.int a, .int b] h Q := by
  refine ev_M.go rfl rfl ?_
  refine ev_W.fn rfl rfl ?_
  refine ev_W.fn rfl rfl ?_
  refine ev_W.br rfl rfl (fun h1 => ?_) (fun h1 => ?_)
  · refine ev_W.fn rfl rfl ?_
    refine ev_W.ret rfl rfl ?_
    rw [if_neg (Int32.not_lt.mpr h1)] at k
    exact k
  · refine ev_W.fn rfl rfl ?_
    refine ev_W.fn rfl rfl ?_
    refine ev_W.ret rfl rfl ?_
    rw [if_pos (Int32.not_le.mp h1)] at k
    exact k
def wnt (x : hb_Sb) (T : Int64) (own : Bool) : Bool := !(own && x.2.2) && tc_cov x.1 T
def wn (s : hb_S) (i j c : Nat) (T : Int64) : Bool := match (sB s i)[j]? with
  | none => false
  | some x => wnt x T (decide (i = c))
theorem sp_Z_wants {i j : Nat} {T : Int64} (R : zR z m0 s p t h) (hi : i < 3) (hc : c < 3) (hj : j < 4) (hB : ∀ b, b ∈ sB s i → oS b) (hl : sI s 10 i = 0 → sB s i = []) (hT : tpc T) (k : ∀ t' h', zR z m0 (s) p t' h' → rf_E m0 h h' → Q (some (.int (zb (wn s i j c T))), h')) : ev_M (mf_Z_wants z) [.ref m0, .int (nI i), .int (nI j), .int (nI c), .long (tz_pl T)] h Q := by
  have h4 := R.2.2.2.2.2.1 i hi
  unfold wn at k
  refine ev_M.go rfl rfl ?_
  refine ev_W.fn rfl rfl ?_
  refine ev_W.fn rfl rfl ?_
  refine ev_W.fn rfl rfl ?_
  refine ev_W.fn rfl rfl ?_
  refine ev_W.fn rfl rfl ?_
  refine ev_W.fn rfl rfl ?_
  refine ev_W.fn rfl rfl ?_
  refine ev_W.obj rfl R.ob rfl ?_
  refine ev_W.fn rfl rfl ?_
  refine ev_W.g42 R hi rfl rfl ?_
  refine ev_W.br rfl rfl (fun h1 => ?_) (fun h1 => ?_)
  · refine ev_W.fn rfl rfl ?_
    refine ev_W.zret rfl (Or.inl rfl) ?_
    rw [hl h1] at k
    exact k _ _ R rf_E.rf
  · refine ev_W.fn rfl rfl ?_
    refine ev_W.fn rfl rfl ?_
    refine ev_W.obj rfl R.ob rfl ?_
    refine ev_W.fn rfl rfl ?_
    refine ev_W.g43 R hi rfl rfl ?_
    refine ev_W.br rfl rfl (fun h2 => ?_) (fun h2 => ?_)
    · refine ev_W.fn rfl rfl ?_
      refine ev_W.zret rfl (Or.inl rfl) ?_
      rw [List.getElem?_eq_none ((nI_leI (by omega) (by omega)).mp h2)] at k
      exact k _ _ R rf_E.rf
    · have h2 : j < (sB s i).length := Nat.lt_of_not_le (fun w => h2 (nI_le w (by omega)))
      obtain ⟨x, hx⟩ : ∃ x, (sB s i)[j]? = some x := ⟨_, List.getElem?_eq_getElem h2⟩
      have hS := hB x (List.mem_of_getElem? hx)
      rw [hx] at k
      have k : ∀ t' h', zR z m0 s p t' h' → rf_E m0 h h' → Q (some (.int (zb (wnt x T (decide (i = c))))), h') := k
      unfold wnt at k
      refine ev_W.fn rfl rfl ?_
      refine ev_W.obj rfl R.ob rfl ?_
      refine ev_W.fn rfl rfl ?_
      refine ev_W.g46 R hi hx (zma 4 i j) rfl ?_
      refine ev_W.br rfl rfl (fun h3 => ?_) (fun h3 => ?_)
      · have h3 := zb_n0.mp h3
        rw [h3, Bool.and_false, Bool.not_false, Bool.true_and] at k
        refine ev_W.fn rfl rfl ?_
        refine ev_W.fn rfl rfl ?_
        refine ev_W.obj rfl R.ob rfl ?_
        refine ev_W.fn rfl rfl ?_
        refine ev_W.g44 R hi hx (zma 4 i j) rfl ?_
        refine ev_W.fn rfl rfl ?_
        refine ev_W.clR rfl rfl rfl rfl rfl R.ob ?_
        refine sp_Z_fitsR R hS.1 hT (fun t1 u1 R1 E1 => ?_)
        refine ev_W.br rfl rfl (fun h5 => ?_) (fun h5 => ?_)
        · refine ev_W.fn rfl rfl ?_
          refine ev_W.zret rfl (Or.inl rfl) ?_
          rw [zb_n0.mp h5] at k
          exact k _ _ R1 E1
        · refine ev_W.fn rfl rfl ?_
          refine ev_W.fn rfl rfl ?_
          refine ev_W.zret rfl (Or.inr rfl) ?_
          rw [zb_1.mp h5] at k
          exact k _ _ R1 E1
      · have h3 := zb_1.mp h3
        rw [h3, Bool.and_true] at k
        refine ev_W.fn rfl rfl ?_
        refine ev_W.fn rfl rfl ?_
        refine ev_W.br rfl rfl (fun h4 => ?_) (fun h4 => ?_)
        · refine ev_W.fn rfl rfl ?_
          refine ev_W.zret rfl (Or.inl rfl) ?_
          rw [decide_eq_true ((nI_eq (by omega) (by omega)).mp h4)] at k
          exact k _ _ R rf_E.rf
        · rw [decide_eq_false (fun w => h4 (by rw [w])), Bool.not_false, Bool.true_and] at k
          refine ev_W.fn rfl rfl ?_
          refine ev_W.fn rfl rfl ?_
          refine ev_W.obj rfl R.ob rfl ?_
          refine ev_W.fn rfl rfl ?_
          refine ev_W.g44 R hi hx (zma 4 i j) rfl ?_
          refine ev_W.fn rfl rfl ?_
          refine ev_W.clR rfl rfl rfl rfl rfl R.ob ?_
          refine sp_Z_fitsR R hS.1 hT (fun t2 u2 R2 E2 => ?_)
          refine ev_W.br rfl rfl (fun h5 => ?_) (fun h5 => ?_)
          · refine ev_W.fn rfl rfl ?_
            refine ev_W.zret rfl (Or.inl rfl) ?_
            rw [zb_n0.mp h5] at k
            exact k _ _ R2 E2
          · refine ev_W.fn rfl rfl ?_
            refine ev_W.fn rfl rfl ?_
            refine ev_W.zret rfl (Or.inr rfl) ?_
            rw [zb_1.mp h5] at k
            exact k _ _ R2 E2
theorem sp_zkp_find {T : Int64} (R : zR z m0 s p t h) (hr : RI s) (hT : tx_read T = T) (k : Q (some (.int (on_i (ix_of (fun x => decide (x.1 = T)) (sM s 3) 0))), h)) : ∀ (B A : List hb_Ms), sM s 3 = A ++ B → ix_of (fun x => decide (x.1 = T)) (sM s 3) 0 = ix_of (fun x => decide (x.1 = T)) B A.length → ev_W (mk_Z_keptPlace z) (2, [some (.ref m0), some (.long (tz_pl T)), none, some (.int (nI A.length))], [], h) Q := by
  have h4 := hr.2
  intro B
  induction B with
  | nil =>
    intro A hl e
    rw [List.append_nil] at hl
    rw [e] at k
    refine ev_W.fn rfl rfl ?_
    refine ev_W.fn rfl rfl ?_
    refine ev_W.g58 R rfl ?_
    refine ev_W.brT rfl rfl (nI_le (by rw [hl]; exact Nat.le_refl _) (by rw [hl] at h4; omega)) ?_
    refine ev_W.fn rfl rfl ?_
    refine ev_W.ret rfl rfl ?_
    exact k
  | cons x B ih =>
    intro A hl e
    have hL : (sM s 3).length = A.length + 1 + B.length := by rw [hl]; simp; omega
    have hx : (sM s 3)[A.length]? = some x := by rw [hl]; simp
    have hR := hr.1 x (List.mem_of_getElem? hx)
    have pi := pl_inj hR.1.1 hT
    refine ev_W.fn rfl rfl ?_
    refine ev_W.fn rfl rfl ?_
    refine ev_W.g58 R rfl ?_
    refine ev_W.brF rfl rfl (nI_ge (by omega) (by omega)) ?_
    refine ev_W.fn rfl rfl ?_
    refine ev_W.obj rfl R.ob rfl ?_
    refine ev_W.fn rfl rfl ?_
    refine ev_W.g59 R hx rfl rfl ?_
    refine ev_W.fn rfl rfl ?_
    refine ev_W.fn rfl rfl ?_
    refine ev_W.br rfl rfl (fun h1 => ?_) (fun h1 => ?_)
    · have hn : ¬ x.1 = T := fun q => lc_ne h1 (pi.mpr q)
      refine ev_W.fn rfl rfl ?_
      refine ev_W.fn rfl rfl ?_
      have nx := ih (A ++ [x]) (by rw [hl]; simp) (by rw [e, ix_of, decide_eq_false hn, if_neg (by decide)]; simp)
      rw [List.length_append] at nx
      have e2 : nI (A.length + [x].length) = nI A.length + 1 := (nI_1 _).symm
      rw [e2] at nx
      exact nx
    · refine ev_W.fn rfl rfl ?_
      refine ev_W.ret rfl rfl ?_
      rw [e, ix_of, if_pos (decide_eq_true (pi.mp (lc_en h1)))] at k
      exact k
theorem sp_Z_keptPlace {T : Int64} (R : zR z m0 s p t h) (hr : RI s) (hT : tx_read T = T) (k : Q (some (.int (on_i (ix_of (fun x => decide (x.1 = T)) (sM s 3) 0))), h)) : ev_M (mf_Z_keptPlace z) [.ref m0, .long (tz_pl T)] h Q := by
  refine ev_M.go rfl rfl ?_
  refine ev_W.fn rfl rfl ?_
  refine ev_W.fn rfl rfl ?_
  exact sp_zkp_find R hr hT k _ [] rfl rfl
theorem zR.kept (R : zR z m0 s p t h) {t' : rf_S} {h' : ev_H} {ms : List hb_Ms} (P : rf_P z m0 t' h') (A : ag WK t t') (g : rg t' p) (hl : ms.length ≤ 4) (hr : rkp t' ms) : zR z m0 (tM s 3 ms) p t' h' := ⟨P, R.2.1.kept A hr, g, R.2.2.2.dK hl⟩
theorem sp_zrt_x {T : Int64} {v q : Int32} {b : Bool} {j : Nat} {ms : List hb_Ms} {h1 : ev_H} {n58 : Int32} (R : zR z m0 s p t h) (P : rf_P z m0 (uS t 58 n58) h1) (hj : j < 4) (hl : ms.length ≤ 4) (h58 : (uS t 58 n58).2.2.1 58 = nI ms.length) (hrow : ∀ n x, ms[n]? = some x → (n = j ∧ x = (T, v, q, b)) ∨ (n ≠ j ∧ rkq t n x)) (k : ∀ t' h', zR z m0 (tM s 3 ms) p t' h' → rf_E m0 h1 h' → Q (none, h')) (y5 : Option Value) : ev_W (mk_Z_retain z) (148, [some (.ref m0), some (.long (tz_pl T)), none, some (.int v), some (.int q), y5, some (.int (nI j))], [], h1) Q := by
  refine ev_W.fn rfl rfl ?_
  refine ev_W.obj rfl P.2.2.2.1 rfl ?_
  refine ev_W.fn rfl rfl ?_
  refine ev_W.fn rfl rfl ?_
  refine ev_W.sl 59 P rfl rfl hj rfl (fun u1 R1 E1 => ?_)
  refine ev_W.fn rfl rfl ?_
  refine ev_W.obj rfl R1.2.2.2.1 rfl ?_
  refine ev_W.fn rfl rfl ?_
  refine ev_W.fn rfl rfl ?_
  refine ev_W.si 60 R1 rfl rfl hj rfl (fun u2 R2 E2 => ?_)
  refine ev_W.fn rfl rfl ?_
  refine ev_W.obj rfl R2.2.2.2.1 rfl ?_
  refine ev_W.fn rfl rfl ?_
  refine ev_W.fn rfl rfl ?_
  refine ev_W.si 61 R2 rfl rfl hj rfl (fun u3 R3 E3 => ?_)
  refine ev_W.ret rfl rfl ?_
  have W : ∀ f, 59 ≤ f → f < 62 → WK f j := fun f a b => ⟨a, b, hj⟩
  refine k _ _ (R.kept R3 ((((ag.rf.wS n58 (by decide)).wL _ (W 59 (by decide) (by decide))).wI _ (W 60 (by decide) (by decide))).wI _ (W 61 (by decide) (by decide))) R.2.2.1 hl ⟨h58, fun n x hx => ?_⟩) (E1.tr (E2.tr E3))
  rcases hrow n x hx with ⟨rfl, rfl⟩ | ⟨hne, r1, r2, r3⟩
  · refine ⟨?_, ?_, ?_⟩ <;> simp only [uI_1, uI_2, uL_1, uL_0] <;> simp
  · refine ⟨?_, ?_, ?_⟩ <;> simp only [uI_1, uI_2, uL_1, uL_0] <;> simp [hne] <;> assumption
theorem sp_Z_retain {T : Int64} {v q : Int32} (R : zR z m0 s p t h) (hr : RI s) (hT : tx_read T = T) (k : ∀ t' h', zR z m0 (M_retain s (T, v, q, true)) p t' h' → rf_E m0 h h' → Q (none, h')) : ev_M (mf_Z_retain z) [.ref m0, .long (tz_pl T), .int v, .int q] h Q := by
  have h4 := hr.2
  unfold M_retain at k
  have P := R.1
  have h58 := R.2.1.k.1
  have rows := R.2.1.k.2
  refine ev_M.go rfl rfl ?_
  refine ev_W.fn rfl rfl ?_
  refine ev_W.fn rfl rfl ?_
  refine ev_W.clR rfl rfl rfl rfl rfl R.ob ?_
  refine sp_Z_keptPlace R hr hT ?_
  have k : ∀ t' h', zR z m0 (match ix_of (fun x => decide (x.1 = T)) (sM s 3) 0 with
    | some i => if v = 0 then tM s 3 ((sM s 3).eraseIdx i) else tM s 3 ((sM s 3).set i (T, v, q, true))
    | none => if ¬ v = 0 ∧ (sM s 3).length < 4 then tM s 3 (sM s 3 ++ [(T, v, q, true)]) else s) p t' h' → rf_E m0 h h' → Q (none, h') := k
  have hix : ∀ j, ix_of (fun x => decide (x.1 = T)) (sM s 3) 0 = some j → j < (sM s 3).length := fun j e => by
    obtain ⟨x, hx, _⟩ := ix_0 e
    exact (List.getElem?_eq_some_iff.mp hx).1
  generalize ix_of (fun x => decide (x.1 = T)) (sM s 3) 0 = w at k hix ⊢
  refine ev_W.fn rfl rfl ?_
  refine ev_W.fn rfl rfl ?_
  cases w with
  | none =>
    have k : ∀ t' h', zR z m0 (if ¬ v = 0 ∧ (sM s 3).length < 4 then tM s 3 (sM s 3 ++ [(T, v, q, true)]) else s) p t' h' → rf_E m0 h h' → Q (none, h') := k
    refine ev_W.br rfl rfl (fun h1 => ?_) (fun h1 => ?_)
    · refine ev_W.fn rfl rfl ?_
      refine ev_W.brF rfl rfl h1 ?_
      refine ev_W.fn rfl rfl ?_
      refine ev_W.fn rfl rfl ?_
      refine ev_W.fn rfl rfl ?_
      refine ev_W.g58 R rfl ?_
      refine ev_W.fn rfl rfl ?_
      refine ev_W.br rfl rfl (fun h2 => ?_) (fun h2 => ?_)
      · rw [if_neg (fun w => nI_ge (b := 4) w.2 (by decide) h2)] at k
        refine ev_W.ret rfl rfl ?_
        exact k _ _ R rf_E.rf
      · have h2 : (sM s 3).length < 4 := Nat.lt_of_not_le (fun w => h2 (nI_le (a := 4) w (by omega)))
        rw [if_pos ⟨h1, h2⟩] at k
        refine ev_W.fn rfl rfl ?_
        refine ev_W.fn rfl rfl ?_
        refine ev_W.fn rfl rfl ?_
        refine ev_W.g58 R rfl ?_
        refine ev_W.fn rfl rfl ?_
        refine ev_W.fn rfl rfl ?_
        refine ev_W.fn rfl rfl ?_
        refine ev_W.fn rfl rfl ?_
        refine ev_W.fn rfl rfl ?_
        refine ev_W.g58 R rfl ?_
        refine ev_W.fn rfl rfl ?_
        refine ev_W.fn rfl rfl ?_
        refine ev_W.sf58 P rfl (fun v1 P1 E1 => ?_)
        have R1 : zR z m0 s p t h := R
        refine sp_zrt_x (b := true) (ms := sM s 3 ++ [(T, v, q, true)]) R P1 (by omega) (by simp; omega) (by rw [uS_1, if_pos rfl, List.length_append, nI_1]; rfl) (fun n x hx => ?_) (fun t' h' R' E' => k t' h' R' (rf_E.tr E1 E')) _
        by_cases e : n < (sM s 3).length
        · rw [List.getElem?_append_left e] at hx
          exact Or.inr ⟨by omega, rows n x hx⟩
        · rw [List.getElem?_append_right (by omega)] at hx
          have h0 : n - (sM s 3).length = 0 := by
            have := (List.getElem?_eq_some_iff.mp hx).1
            simp at this; omega
          rw [h0] at hx
          have hx : (T, v, q, true) = x := by simpa using hx
          exact Or.inl ⟨by omega, hx.symm⟩
    · have h1 := Decidable.not_not.mp h1
      rw [if_neg (fun w => w.1 h1)] at k
      refine ev_W.fn rfl rfl ?_
      refine ev_W.fn rfl rfl ?_
      refine ev_W.fn rfl rfl ?_
      refine ev_W.brT rfl rfl h1 ?_
      refine ev_W.ret rfl rfl ?_
      exact k _ _ R rf_E.rf
  | some j =>
    have k : ∀ t' h', zR z m0 (if v = 0 then tM s 3 ((sM s 3).eraseIdx j) else tM s 3 ((sM s 3).set j (T, v, q, true))) p t' h' → rf_E m0 h h' → Q (none, h') := k
    have hjl : j < (sM s 3).length := hix j rfl
    have hj0 : ¬ nI j < 0 := nI_pos (by omega)
    refine ev_W.br rfl rfl (fun h1 => ?_) (fun h1 => ?_)
    · rw [if_neg h1] at k
      refine ev_W.fn rfl rfl ?_
      refine ev_W.brF rfl rfl h1 ?_
      refine ev_W.fn rfl rfl ?_
      refine ev_W.brT rfl rfl (nI_pos' (by omega)) ?_
      refine ev_W.fn rfl rfl ?_
      refine ev_W.brF rfl rfl hj0 ?_
      refine ev_W.fn rfl rfl ?_
      refine ev_W.fn rfl rfl ?_
      refine ev_W.fn rfl rfl ?_
      refine ev_W.fn rfl rfl ?_
      refine ev_W.fn rfl rfl ?_
      refine ev_W.brF rfl rfl hj0 ?_
      refine ev_W.fn rfl rfl ?_
      refine ev_W.g58 R rfl ?_
      refine ev_W.fn rfl rfl ?_
      refine ev_W.sf58 P rfl (fun v1 P1 E1 => ?_)
      refine sp_zrt_x (b := true) (ms := (sM s 3).set j (T, v, q, true)) R P1 (by omega) (by rw [List.length_set]; exact h4) (by rw [uS_1, if_pos rfl, List.length_set]) (fun n x hx => ?_) (fun t' h' R' E' => k t' h' R' (rf_E.tr E1 E')) _
      by_cases e : n = j
      · subst e
        rw [List.getElem?_set_self hjl] at hx
        exact Or.inl ⟨rfl, (Option.some.inj hx).symm⟩
      · rw [List.getElem?_set_ne (fun q => e q.symm)] at hx
        exact Or.inr ⟨e, rows n x hx⟩
    · have h1 := Decidable.not_not.mp h1
      rw [if_pos h1] at k
      refine ev_W.fn rfl rfl ?_
      refine ev_W.brF rfl rfl hj0 ?_
      refine ev_W.fn rfl rfl ?_
      refine ev_W.fn rfl rfl ?_
      refine ev_W.g58 R rfl ?_
      refine ev_W.fn rfl rfl ?_
      refine ev_W.fn rfl rfl ?_
      refine ev_W.sf58 P rfl (fun v1 P1 E1 => ?_)
      refine ev_W.fn rfl rfl ?_
      refine ev_W.fn rfl rfl ?_
      have e58 : (uS t 58 (nI (sM s 3).length - 1)).2.2.1 58 = nI ((sM s 3).length - 1) := nI_p1 (by omega)
      refine sp_zkp_loop (xs := sM s 3) (k0 := j) h4 ((sM s 3).length - 1 - j) j _ _ (Nat.le_refl _) (by omega) P1 e58 (fun n x hx => ?_) (fun t' h' y P' E' A' e' r' => ?_)
      · rw [shf_0] at hx; exact rows n x hx
      · refine ev_W.fn rfl rfl ?_
        refine ev_W.brT rfl rfl h1 ?_
        refine ev_W.ret rfl rfl ?_
        have Aw : ag WK t t' := ag.tr (ag.rf.wS _ (by decide)) (A'.mono (fun f i w => ⟨w.1, w.2.1, by omega⟩))
        refine k t' h' (R.kept P' Aw ?_ (by rw [List.length_eraseIdx_of_lt hjl]; omega) ⟨?_, fun n x hx => r' n x (shf_end hjl hx)⟩) (rf_E.tr E1 E')
        · have g := R.2.2.1
          unfold rg at g ⊢
          rw [e']; exact g
        · rw [e', e58, List.length_eraseIdx_of_lt hjl]
end ZQ
