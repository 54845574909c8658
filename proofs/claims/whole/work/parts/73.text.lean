/-! Text: what its functions answer (laid by wip/whole/p73.py). -/
def tx_ch (t : Int64) (i : Int32) : Int32 := if 0 ≤ i ∧ i ≤ 7 then ((t.toUInt64 >>> ((56 - 8 * i).toInt64.toUInt64 &&& Int64.toUInt64 63)).toInt64).toInt32 &&& 255 else 0
def tx_pl (x : Int32) : Bool := decide (97 ≤ x ∧ x ≤ 122) || decide (48 ≤ x ∧ x ≤ 57) || decide (x = 36) || decide (x = 47)
def tx_jk (t : Int64) (i : Int32) : Bool := if ¬ tx_ch t (i - 1) = 0 ∧ ¬ tx_ch t (i - 1) = 47 then false else (decide (tx_ch t i = 43) && (decide (tx_ch t (i + 1) = 0) || decide (tx_ch t (i + 1) = 47))) || (decide (tx_ch t i = 35) && decide (tx_ch t (i + 1) = 0))
def tx_tg (t : Int64) : Nat → Nat → Bool
  | 0, _ => decide (¬ t = 0)
  | n + 1, i => if tx_ch t (nI i) = 0 ∨ tx_pl (tx_ch t (nI i)) = true then tx_tg t n (i + 1) else false
def tx_fg (t : Int64) : Nat → Nat → Bool
  | 0, _ => decide (¬ t = 0)
  | n + 1, i => if tx_ch t (nI i) = 0 ∨ tx_pl (tx_ch t (nI i)) = true ∨ tx_jk t (nI i) = true then tx_fg t n (i + 1) else false
def tx_rg (g : Int64) : Nat → Nat → Int64 → Nat → Int64
  | 0, _, x, _ => x
  | n + 1, i, x, l => if (tx_ch g (nI i)).toInt64 = 0 then tx_rg g n (i + 1) x l else tx_rg g n (i + 1) (x ||| ((tx_ch g (nI i)).toInt64 <<< ((56 - 8 * nI l).toInt64 &&& 63))) (l + 1)
def tx_read (g : Int64) : Int64 := tx_rg g 8 0 0 0
def tx_top (x : Int64) : Int64 := (x.toUInt64 >>> ((56 : Int32).toInt64.toUInt64 &&& Int64.toUInt64 63)).toInt64
def tx_sh (x : Int64) : Int64 := x <<< ((8 : Int32).toInt64 &&& 63)
def tc_go : Nat → Int64 → Int64 → Bool
  | 0, _, r => decide (r = 0)
  | n + 1, w, r => if w = 0 then decide (r = 0) else if tx_top w = 35 ∨ (r = 0 ∧ w = 3396558543967485952) then true else if tx_top w = 43 ∧ ¬ tx_top r = 0 ∧ ¬ tx_top r = 47 then tc_go n w (tx_sh r) else if tx_top w = 43 then tc_go n (tx_sh w) r else if tx_top w = tx_top r then tc_go n (tx_sh w) (tx_sh r) else false
def tc_cov (f t : Int64) : Bool := if (tx_top f = 43 ∨ tx_top f = 35) ∧ tx_top t = 36 then false else tc_go 16 f t
section TX
variable {z : Nat × Nat} {h : ev_H} {Q : ev_O → Prop}
theorem zb_1 {b : Bool} : ¬ zb b = 0 ↔ b = true := by cases b <;> simp [zb]
theorem sp_T_letterAt {t : Int64} {i : Int32} (k : Q (some (.int (tx_ch t i)), h)) : ev_M (mf_T_letterAt z) [.long t, .int i] h Q := by
  refine ev_M.go rfl rfl ?_
  refine ev_W.fn rfl rfl ?_
  refine ev_W.fn rfl rfl ?_
  refine ev_W.fn rfl rfl ?_
  refine ev_W.cl rfl rfl rfl rfl rfl ?_
  refine sp_isWithin ?_
  refine ev_W.br rfl rfl (fun h1 => ?_) (fun h1 => ?_)
  · refine ev_W.fn rfl rfl ?_
    refine ev_W.ret rfl rfl ?_
    have h1 := of_decide_eq_false (zb_n0.mp h1)
    rw [tx_ch, if_neg h1] at k
    exact k
  · refine ev_W.fn rfl rfl ?_
    refine ev_W.fn rfl rfl ?_
    refine ev_W.fn rfl rfl ?_
    refine ev_W.fn rfl rfl ?_
    refine ev_W.fn rfl rfl ?_
    refine ev_W.fn rfl rfl ?_
    refine ev_W.fn rfl rfl ?_
    refine ev_W.fn rfl rfl ?_
    refine ev_W.fn rfl rfl ?_
    refine ev_W.fn rfl rfl ?_
    refine ev_W.fn rfl rfl ?_
    refine ev_W.ret rfl rfl ?_
    have h1 := of_decide_eq_true (zb_1.mp h1)
    rw [tx_ch, if_pos h1] at k
    exact k
theorem sp_T_isPlain {x : Int32} (k : Q (some (.int (zb (tx_pl x))), h)) : ev_M (mf_T_isPlain z) [.int x] h Q := by
  unfold tx_pl at k
  refine ev_M.go rfl rfl ?_
  refine ev_W.fn rfl rfl ?_
  refine ev_W.fn rfl rfl ?_
  refine ev_W.fn rfl rfl ?_
  refine ev_W.cl rfl rfl rfl rfl rfl ?_
  refine sp_isWithin ?_
  refine ev_W.br rfl rfl (fun h1 => ?_) (fun h1 => ?_)
  · have h1 := zb_1.mp h1
    refine ev_W.fn rfl rfl ?_
    refine ev_W.fn rfl rfl ?_
    refine ev_W.zret rfl (Or.inr rfl) ?_
    simpa [h1, zb] using k
  · refine ev_W.fn rfl rfl ?_
    refine ev_W.fn rfl rfl ?_
    refine ev_W.fn rfl rfl ?_
    refine ev_W.cl rfl rfl rfl rfl rfl ?_
    refine sp_isWithin ?_
    refine ev_W.br rfl rfl (fun h2 => ?_) (fun h2 => ?_)
    · have h2 := zb_1.mp h2
      refine ev_W.fn rfl rfl ?_
      refine ev_W.fn rfl rfl ?_
      refine ev_W.zret rfl (Or.inr rfl) ?_
      simpa [h2, zb] using k
    · refine ev_W.fn rfl rfl ?_
      refine ev_W.fn rfl rfl ?_
      refine ev_W.br rfl rfl (fun h3 => ?_) (fun h3 => ?_)
      · refine ev_W.fn rfl rfl ?_
        refine ev_W.fn rfl rfl ?_
        refine ev_W.zret rfl (Or.inr rfl) ?_
        simpa [h3, zb] using k
      · have h1 := zb_n0.mp (Decidable.not_not.mp h1)
        have h2 := zb_n0.mp (Decidable.not_not.mp h2)
        refine ev_W.fn rfl rfl ?_
        refine ev_W.fn rfl rfl ?_
        refine ev_W.br rfl rfl (fun h4 => ?_) (fun h4 => ?_)
        · refine ev_W.fn rfl rfl ?_
          refine ev_W.zret rfl (Or.inl rfl) ?_
          rw [h1, h2] at k
          simpa [h3, h4, zb] using k
        · have h4 := Decidable.not_not.mp h4
          refine ev_W.fn rfl rfl ?_
          refine ev_W.fn rfl rfl ?_
          refine ev_W.zret rfl (Or.inr rfl) ?_
          simpa [h4, zb] using k
theorem sp_T_isJoker {t : Int64} {i : Int32} (k : Q (some (.int (zb (tx_jk t i))), h)) : ev_M (mf_T_isJokerInPlace z) [.long t, .int i] h Q := by
  unfold tx_jk at k
  refine ev_M.go rfl rfl ?_
  refine ev_W.fn rfl rfl ?_
  refine ev_W.fn rfl rfl ?_
  refine ev_W.fn rfl rfl ?_
  refine ev_W.fn rfl rfl ?_
  refine ev_W.cl rfl rfl rfl rfl rfl ?_
  refine sp_T_letterAt ?_
  refine ev_W.fn rfl rfl ?_
  refine ev_W.fn rfl rfl ?_
  refine ev_W.fn rfl rfl ?_
  refine ev_W.fn rfl rfl ?_
  refine ev_W.fn rfl rfl ?_
  refine ev_W.cl rfl rfl rfl rfl rfl ?_
  refine sp_T_letterAt ?_
  refine ev_W.fn rfl rfl ?_
  refine ev_W.fn rfl rfl ?_
  refine ev_W.br rfl rfl (fun h1 => ?_) (fun h1 => ?_)
  · rw [if_neg (fun q => q.1 h1)] at k
    refine ev_W.fn rfl rfl ?_
    refine ev_W.fn rfl rfl ?_
    refine ev_W.cl rfl rfl rfl rfl rfl ?_
    refine sp_T_letterAt ?_
    refine ev_W.fn rfl rfl ?_
    refine ev_W.fn rfl rfl ?_
    refine ev_W.fn rfl rfl ?_
    refine ev_W.br rfl rfl (fun h3 => ?_) (fun h3 => ?_)
    · refine ev_W.fn rfl rfl ?_
      refine ev_W.fn rfl rfl ?_
      refine ev_W.br rfl rfl (fun h5 => ?_) (fun h5 => ?_)
      · refine ev_W.fn rfl rfl ?_
        refine ev_W.zret rfl (Or.inl rfl) ?_
        simpa [h3, h5, zb] using k
      · have h5 := Decidable.not_not.mp h5
        refine ev_W.fn rfl rfl ?_
        refine ev_W.br rfl rfl (fun h6 => ?_) (fun h6 => ?_)
        · refine ev_W.fn rfl rfl ?_
          refine ev_W.zret rfl (Or.inl rfl) ?_
          simpa [h3, h5, h6, zb] using k
        · have h6 := Decidable.not_not.mp h6
          refine ev_W.fn rfl rfl ?_
          refine ev_W.fn rfl rfl ?_
          refine ev_W.zret rfl (Or.inr rfl) ?_
          simpa [h3, h5, h6, zb] using k
    · have h3 := Decidable.not_not.mp h3
      refine ev_W.fn rfl rfl ?_
      refine ev_W.br rfl rfl (fun h4 => ?_) (fun h4 => ?_)
      · refine ev_W.fn rfl rfl ?_
        refine ev_W.fn rfl rfl ?_
        refine ev_W.zret rfl (Or.inr rfl) ?_
        simpa [h3, h4, zb] using k
      · refine ev_W.fn rfl rfl ?_
        refine ev_W.fn rfl rfl ?_
        refine ev_W.br rfl rfl (fun h7 => ?_) (fun h7 => ?_)
        · refine ev_W.fn rfl rfl ?_
          refine ev_W.fn rfl rfl ?_
          refine ev_W.zret rfl (Or.inr rfl) ?_
          simpa [h3, h7, zb] using k
        · refine ev_W.fn rfl rfl ?_
          refine ev_W.fn rfl rfl ?_
          refine ev_W.br rfl rfl (fun h5 => ?_) (fun h5 => ?_)
          · refine ev_W.fn rfl rfl ?_
            refine ev_W.zret rfl (Or.inl rfl) ?_
            simpa [h3, h4, h5, h7, zb] using k
          · have h5 := Decidable.not_not.mp h5
            rw [h3] at h5
            exact absurd h5 (by decide)
  · refine ev_W.fn rfl rfl ?_
    refine ev_W.fn rfl rfl ?_
    refine ev_W.br rfl rfl (fun h2 => ?_) (fun h2 => ?_)
    · rw [if_neg (fun q => q.2 h2)] at k
      refine ev_W.fn rfl rfl ?_
      refine ev_W.fn rfl rfl ?_
      refine ev_W.cl rfl rfl rfl rfl rfl ?_
      refine sp_T_letterAt ?_
      refine ev_W.fn rfl rfl ?_
      refine ev_W.fn rfl rfl ?_
      refine ev_W.fn rfl rfl ?_
      refine ev_W.br rfl rfl (fun h3 => ?_) (fun h3 => ?_)
      · refine ev_W.fn rfl rfl ?_
        refine ev_W.fn rfl rfl ?_
        refine ev_W.br rfl rfl (fun h5 => ?_) (fun h5 => ?_)
        · refine ev_W.fn rfl rfl ?_
          refine ev_W.zret rfl (Or.inl rfl) ?_
          simpa [h3, h5, zb] using k
        · have h5 := Decidable.not_not.mp h5
          refine ev_W.fn rfl rfl ?_
          refine ev_W.br rfl rfl (fun h6 => ?_) (fun h6 => ?_)
          · refine ev_W.fn rfl rfl ?_
            refine ev_W.zret rfl (Or.inl rfl) ?_
            simpa [h3, h5, h6, zb] using k
          · have h6 := Decidable.not_not.mp h6
            refine ev_W.fn rfl rfl ?_
            refine ev_W.fn rfl rfl ?_
            refine ev_W.zret rfl (Or.inr rfl) ?_
            simpa [h3, h5, h6, zb] using k
      · have h3 := Decidable.not_not.mp h3
        refine ev_W.fn rfl rfl ?_
        refine ev_W.br rfl rfl (fun h4 => ?_) (fun h4 => ?_)
        · refine ev_W.fn rfl rfl ?_
          refine ev_W.fn rfl rfl ?_
          refine ev_W.zret rfl (Or.inr rfl) ?_
          simpa [h3, h4, zb] using k
        · refine ev_W.fn rfl rfl ?_
          refine ev_W.fn rfl rfl ?_
          refine ev_W.br rfl rfl (fun h7 => ?_) (fun h7 => ?_)
          · refine ev_W.fn rfl rfl ?_
            refine ev_W.fn rfl rfl ?_
            refine ev_W.zret rfl (Or.inr rfl) ?_
            simpa [h3, h7, zb] using k
          · refine ev_W.fn rfl rfl ?_
            refine ev_W.fn rfl rfl ?_
            refine ev_W.br rfl rfl (fun h5 => ?_) (fun h5 => ?_)
            · refine ev_W.fn rfl rfl ?_
              refine ev_W.zret rfl (Or.inl rfl) ?_
              simpa [h3, h4, h5, h7, zb] using k
            · have h5 := Decidable.not_not.mp h5
              rw [h3] at h5
              exact absurd h5 (by decide)
    · refine ev_W.fn rfl rfl ?_
      refine ev_W.zret rfl (Or.inl rfl) ?_
      rw [if_pos ⟨h1, h2⟩] at k
      exact k
theorem sp_tt_loop {t : Int64} : ∀ (n i : Nat) (x3 : Option Value), i + n = 8 → Q (some (.int (zb (tx_tg t n i))), h) → ev_W (mk_T_isTopic z) (2, [some (.long t), none, some (.int (nI i)), x3], [], h) Q := by
  intro n
  induction n with
  | zero =>
    intro i x3 hi k
    have hi8 : i = 8 := by omega
    refine ev_W.fn rfl rfl ?_
    refine ev_W.fn rfl rfl ?_
    refine ev_W.brT rfl rfl (nI_le (a := 8) (b := i) (by omega) (by omega)) ?_
    refine ev_W.fn rfl rfl ?_
    refine ev_W.fn rfl rfl ?_
    refine ev_W.fn rfl rfl ?_
    refine ev_W.br rfl rfl (fun h1 => ?_) (fun h1 => ?_)
    · refine ev_W.fn rfl rfl ?_
      refine ev_W.zret rfl (Or.inl rfl) ?_
      have h1 := (lg_cmp_eq _ _).mp h1
      simpa [h1, tx_tg, zb] using k
    · refine ev_W.fn rfl rfl ?_
      refine ev_W.fn rfl rfl ?_
      refine ev_W.zret rfl (Or.inr rfl) ?_
      have h1 : ¬ t = 0 := fun q => h1 ((lg_cmp_eq _ _).mpr q)
      simpa [h1, tx_tg, zb] using k
  | succ n ih =>
    intro i x3 hi k
    rw [tx_tg] at k
    have next : ∀ y : Option Value, Q (some (.int (zb (tx_tg t n (i + 1)))), h) → ev_W (mk_T_isTopic z) (27, [some (.long t), none, some (.int (nI i)), y], [], h) Q := by
      intro y k
      refine ev_W.fn rfl rfl ?_
      refine ev_W.fn rfl rfl ?_
      have := ih (i + 1) y (by omega) k
      rw [← nI_1] at this
      exact this
    refine ev_W.fn rfl rfl ?_
    refine ev_W.fn rfl rfl ?_
    refine ev_W.brF rfl rfl (nI_ge (a := i) (b := 8) (by omega) (by decide)) ?_
    refine ev_W.fn rfl rfl ?_
    refine ev_W.fn rfl rfl ?_
    refine ev_W.cl rfl rfl rfl rfl rfl ?_
    refine sp_T_letterAt ?_
    refine ev_W.fn rfl rfl ?_
    refine ev_W.fn rfl rfl ?_
    refine ev_W.br rfl rfl (fun h1 => ?_) (fun h1 => ?_)
    · exact next _ (by rw [if_pos (Or.inl h1)] at k; exact k)
    · refine ev_W.fn rfl rfl ?_
      refine ev_W.cl rfl rfl rfl rfl rfl ?_
      refine sp_T_isPlain ?_
      refine ev_W.br rfl rfl (fun h2 => ?_) (fun h2 => ?_)
      · exact next _ (by rw [if_pos (Or.inr (zb_1.mp h2))] at k; exact k)
      · refine ev_W.fn rfl rfl ?_
        refine ev_W.zret rfl (Or.inl rfl) ?_
        rw [if_neg (fun q => q.elim h1 (fun q => h2 (zb_1.mpr q)))] at k
        exact k
theorem sp_T_isTopic {t : Int64} (k : Q (some (.int (zb (tx_tg t 8 0))), h)) : ev_M (mf_T_isTopic z) [.long t] h Q := by
  refine ev_M.go rfl rfl ?_
  refine ev_W.fn rfl rfl ?_
  refine ev_W.fn rfl rfl ?_
  exact sp_tt_loop 8 0 _ rfl k
theorem sp_tf_loop {t : Int64} : ∀ (n i : Nat) (x3 : Option Value), i + n = 8 → Q (some (.int (zb (tx_fg t n i))), h) → ev_W (mk_T_isFilter z) (2, [some (.long t), none, some (.int (nI i)), x3], [], h) Q := by
  intro n
  induction n with
  | zero =>
    intro i x3 hi k
    have hi8 : i = 8 := by omega
    refine ev_W.fn rfl rfl ?_
    refine ev_W.fn rfl rfl ?_
    refine ev_W.brT rfl rfl (nI_le (a := 8) (b := i) (by omega) (by omega)) ?_
    refine ev_W.fn rfl rfl ?_
    refine ev_W.fn rfl rfl ?_
    refine ev_W.fn rfl rfl ?_
    refine ev_W.br rfl rfl (fun h1 => ?_) (fun h1 => ?_)
    · refine ev_W.fn rfl rfl ?_
      refine ev_W.zret rfl (Or.inl rfl) ?_
      have h1 := (lg_cmp_eq _ _).mp h1
      simpa [h1, tx_fg, zb] using k
    · refine ev_W.fn rfl rfl ?_
      refine ev_W.fn rfl rfl ?_
      refine ev_W.zret rfl (Or.inr rfl) ?_
      have h1 : ¬ t = 0 := fun q => h1 ((lg_cmp_eq _ _).mpr q)
      simpa [h1, tx_fg, zb] using k
  | succ n ih =>
    intro i x3 hi k
    rw [tx_fg] at k
    have next : ∀ y : Option Value, Q (some (.int (zb (tx_fg t n (i + 1)))), h) → ev_W (mk_T_isFilter z) (35, [some (.long t), none, some (.int (nI i)), y], [], h) Q := by
      intro y k
      refine ev_W.fn rfl rfl ?_
      refine ev_W.fn rfl rfl ?_
      have := ih (i + 1) y (by omega) k
      rw [← nI_1] at this
      exact this
    refine ev_W.fn rfl rfl ?_
    refine ev_W.fn rfl rfl ?_
    refine ev_W.brF rfl rfl (nI_ge (a := i) (b := 8) (by omega) (by decide)) ?_
    refine ev_W.fn rfl rfl ?_
    refine ev_W.fn rfl rfl ?_
    refine ev_W.cl rfl rfl rfl rfl rfl ?_
    refine sp_T_letterAt ?_
    refine ev_W.fn rfl rfl ?_
    refine ev_W.fn rfl rfl ?_
    refine ev_W.br rfl rfl (fun h1 => ?_) (fun h1 => ?_)
    · exact next _ (by rw [if_pos (Or.inl h1)] at k; exact k)
    · refine ev_W.fn rfl rfl ?_
      refine ev_W.cl rfl rfl rfl rfl rfl ?_
      refine sp_T_isPlain ?_
      refine ev_W.br rfl rfl (fun h2 => ?_) (fun h2 => ?_)
      · exact next _ (by rw [if_pos (Or.inr (Or.inl (zb_1.mp h2)))] at k; exact k)
      · refine ev_W.fn rfl rfl ?_
        refine ev_W.fn rfl rfl ?_
        refine ev_W.cl rfl rfl rfl rfl rfl ?_
        refine sp_T_isJoker ?_
        refine ev_W.br rfl rfl (fun h3 => ?_) (fun h3 => ?_)
        · exact next _ (by rw [if_pos (Or.inr (Or.inr (zb_1.mp h3)))] at k; exact k)
        · refine ev_W.fn rfl rfl ?_
          refine ev_W.zret rfl (Or.inl rfl) ?_
          rw [if_neg (fun q => q.elim h1 (fun q => q.elim (fun q => h2 (zb_1.mpr q)) (fun q => h3 (zb_1.mpr q))))] at k
          exact k
theorem sp_T_isFilter {t : Int64} (k : Q (some (.int (zb (tx_fg t 8 0))), h)) : ev_M (mf_T_isFilter z) [.long t] h Q := by
  refine ev_M.go rfl rfl ?_
  refine ev_W.fn rfl rfl ?_
  refine ev_W.fn rfl rfl ?_
  exact sp_tf_loop 8 0 _ rfl k
theorem sp_tr_loop {g : Int64} : ∀ (n i l : Nat) (x : Int64) (y6 y7 : Option Value), i + n = 8 → Q (some (.long (tx_rg g n i x l)), h) → ev_W (mk_T_read z) (8, [some (.long g), none, some (.long x), none, some (.int (nI l)), some (.int (nI i)), y6, y7], [], h) Q := by
  intro n
  induction n with
  | zero =>
    intro i l x y6 y7 hi k
    have hi8 : i = 8 := by omega
    refine ev_W.fn rfl rfl ?_
    refine ev_W.fn rfl rfl ?_
    refine ev_W.brT rfl rfl (nI_le (a := 8) (b := i) (by omega) (by omega)) ?_
    refine ev_W.fn rfl rfl ?_
    refine ev_W.ret rfl rfl ?_
    exact k
  | succ n ih =>
    intro i l x y6 y7 hi k
    rw [tx_rg] at k
    have next : ∀ (x2 : Int64) (l2 : Nat) (y y' : Option Value), Q (some (.long (tx_rg g n (i + 1) x2 l2)), h) → ev_W (mk_T_read z) (48, [some (.long g), none, some (.long x2), none, some (.int (nI l2)), some (.int (nI i)), y, y'], [], h) Q := by
      intro x2 l2 y y' k
      refine ev_W.fn rfl rfl ?_
      refine ev_W.fn rfl rfl ?_
      have := ih (i + 1) l2 x2 y y' (by omega) k
      rw [← nI_1] at this
      exact this
    refine ev_W.fn rfl rfl ?_
    refine ev_W.fn rfl rfl ?_
    refine ev_W.brF rfl rfl (nI_ge (a := i) (b := 8) (by omega) (by decide)) ?_
    refine ev_W.fn rfl rfl ?_
    refine ev_W.fn rfl rfl ?_
    refine ev_W.cl rfl rfl rfl rfl rfl ?_
    refine sp_T_letterAt ?_
    refine ev_W.fn rfl rfl ?_
    refine ev_W.fn rfl rfl ?_
    refine ev_W.fn rfl rfl ?_
    refine ev_W.fn rfl rfl ?_
    refine ev_W.fn rfl rfl ?_
    refine ev_W.br rfl rfl (fun h1 => ?_) (fun h1 => ?_)
    · have h1 := (lg_cmp_eq _ _).mp h1
      rw [if_pos h1] at k
      exact next _ _ _ _ k
    · refine ev_W.fn rfl rfl ?_
      refine ev_W.fn rfl rfl ?_
      refine ev_W.fn rfl rfl ?_
      refine ev_W.fn rfl rfl ?_
      refine ev_W.fn rfl rfl ?_
      refine ev_W.fn rfl rfl ?_
      refine ev_W.fn rfl rfl ?_
      refine ev_W.fn rfl rfl ?_
      refine ev_W.fn rfl rfl ?_
      refine ev_W.fn rfl rfl ?_
      refine ev_W.fn rfl rfl ?_
      have h1 : ¬ (tx_ch g (nI i)).toInt64 = 0 := fun q => h1 ((lg_cmp_eq _ _).mpr q)
      rw [if_neg h1] at k
      have := next _ _ (some (.long (tx_ch g (nI i)).toInt64)) none k
      rw [← nI_1] at this
      exact this
theorem sp_T_read {g : Int64} (k : Q (some (.long (tx_read g)), h)) : ev_M (mf_T_read z) [.long g] h Q := by
  refine ev_M.go rfl rfl ?_
  refine ev_W.fn rfl rfl ?_
  refine ev_W.fn rfl rfl ?_
  refine ev_W.fn rfl rfl ?_
  refine ev_W.fn rfl rfl ?_
  refine ev_W.fn rfl rfl ?_
  refine ev_W.fn rfl rfl ?_
  exact sp_tr_loop 8 0 0 0 _ _ rfl k
theorem lc_ne {x y : Int64} (h : ¬ lg_cmp x y = 0) : ¬ x = y := fun q => h ((lg_cmp_eq _ _).mpr q)
theorem lc_eq {x y : Int64} (h : lg_cmp x y = 0) : x = y := (lg_cmp_eq _ _).mp h
theorem lc_en {x y : Int64} (h : ¬ ¬ lg_cmp x y = 0) : x = y := (lg_cmp_eq _ _).mp (Decidable.not_not.mp h)
theorem sp_tc_loop {f t op : Int64} : ∀ (n i : Nat) (w r : Int64) (y1 y2 y3 y4 : Option Value), i + n = 16 → Q (some (.int (zb (tc_go n w r))), h) → ev_W (mk_T_covers z) (46, [some (.long f), none, some (.long t), none, some (.long op), none, some (.long w), none, some (.long r), none, some (.int (nI i)), y1, y2, y3, y4], [], h) Q := by
  have last : ∀ (i : Int32) (w r : Int64) (y1 y2 y3 y4 : Option Value), Q (some (.int (zb (decide (r = 0)))), h) → ev_W (mk_T_covers z) (188, [some (.long f), none, some (.long t), none, some (.long op), none, some (.long w), none, some (.long r), none, some (.int i), y1, y2, y3, y4], [], h) Q := by
    intro i w r y1 y2 y3 y4 k
    refine ev_W.fn rfl rfl ?_
    refine ev_W.fn rfl rfl ?_
    refine ev_W.fn rfl rfl ?_
    refine ev_W.br rfl rfl (fun h1 => ?_) (fun h1 => ?_)
    · refine ev_W.fn rfl rfl ?_
      refine ev_W.zret rfl (Or.inl rfl) ?_
      simpa [lc_ne h1, zb] using k
    · refine ev_W.fn rfl rfl ?_
      refine ev_W.fn rfl rfl ?_
      refine ev_W.zret rfl (Or.inr rfl) ?_
      simpa [lc_en h1, zb] using k
  intro n
  induction n with
  | zero =>
    intro i w r y1 y2 y3 y4 hi k
    have hi8 : i = 16 := by omega
    refine ev_W.fn rfl rfl ?_
    refine ev_W.fn rfl rfl ?_
    refine ev_W.brT rfl rfl (nI_le (a := 16) (b := i) (by omega) (by omega)) ?_
    exact last _ _ _ _ _ _ _ k
  | succ n ih =>
    intro i w r y1 y2 y3 y4 hi k
    rw [tc_go] at k
    have next : ∀ (w r : Int64) (y1 y2 y3 y4 : Option Value), Q (some (.int (zb (tc_go n w r))), h) → ev_W (mk_T_covers z) (182, [some (.long f), none, some (.long t), none, some (.long op), none, some (.long w), none, some (.long r), none, some (.int (nI i)), y1, y2, y3, y4], [], h) Q := by
      intro w r y1 y2 y3 y4 k
      refine ev_W.fn rfl rfl ?_
      refine ev_W.fn rfl rfl ?_
      have := ih (i + 1) w r y1 y2 y3 y4 (by omega) k
      rw [← nI_1] at this
      exact this
    refine ev_W.fn rfl rfl ?_
    refine ev_W.fn rfl rfl ?_
    refine ev_W.brF rfl rfl (nI_ge (a := i) (b := 16) (by omega) (by decide)) ?_
    refine ev_W.fn rfl rfl ?_
    refine ev_W.fn rfl rfl ?_
    refine ev_W.fn rfl rfl ?_
    refine ev_W.br rfl rfl (fun h1 => ?_) (fun h1 => ?_)
    · have h1 : w = 0 := lc_eq h1
      rw [if_pos h1] at k
      exact last _ _ _ _ _ _ _ k
    · have h1 : ¬ w = 0 := lc_ne h1
      rw [if_neg h1] at k
      refine ev_W.fn rfl rfl ?_
      refine ev_W.fn rfl rfl ?_
      refine ev_W.fn rfl rfl ?_
      refine ev_W.fn rfl rfl ?_
      refine ev_W.fn rfl rfl ?_
      refine ev_W.fn rfl rfl ?_
      refine ev_W.fn rfl rfl ?_
      refine ev_W.fn rfl rfl ?_
      refine ev_W.fn rfl rfl ?_
      refine ev_W.fn rfl rfl ?_
      refine ev_W.fn rfl rfl ?_
      refine ev_W.br rfl rfl (fun h2 => ?_) (fun h2 => ?_)
      · have h2 : tx_top w = 35 := lc_eq h2
        refine ev_W.fn rfl rfl ?_
        refine ev_W.zret rfl (Or.inr rfl) ?_
        rw [if_pos (Or.inl h2)] at k
        exact k
      · have h2 : ¬ tx_top w = 35 := lc_ne h2
        refine ev_W.fn rfl rfl ?_
        refine ev_W.fn rfl rfl ?_
        refine ev_W.fn rfl rfl ?_
        refine ev_W.br rfl rfl (fun h3 => ?_) (fun h3 => ?_)
        · have h3 : ¬ r = 0 := lc_ne h3
          rw [if_neg (fun q => q.elim h2 (fun q => h3 q.1))] at k
          refine ev_W.fn rfl rfl ?_
          refine ev_W.fn rfl rfl ?_
          refine ev_W.fn rfl rfl ?_
          refine ev_W.br rfl rfl (fun h5 => ?_) (fun h5 => ?_)
          · have h5 : ¬ tx_top w = 43 := lc_ne h5
            refine ev_W.fn rfl rfl ?_
            refine ev_W.fn rfl rfl ?_
            refine ev_W.fn rfl rfl ?_
            refine ev_W.br rfl rfl (fun h9 => ?_) (fun h9 => ?_)
            · have h9 : ¬ tx_top w = 43 := lc_ne h9
              refine ev_W.fn rfl rfl ?_
              refine ev_W.fn rfl rfl ?_
              refine ev_W.fn rfl rfl ?_
              refine ev_W.br rfl rfl (fun h8 => ?_) (fun h8 => ?_)
              · have h8 : ¬ tx_top w = tx_top r := lc_ne h8
                refine ev_W.fn rfl rfl ?_
                refine ev_W.zret rfl (Or.inl rfl) ?_
                rw [if_neg (fun q => h5 q.1), if_neg h5, if_neg h8] at k
                exact k
              · have h8 : tx_top w = tx_top r := lc_en h8
                refine ev_W.fn rfl rfl ?_
                refine ev_W.fn rfl rfl ?_
                refine ev_W.fn rfl rfl ?_
                refine ev_W.fn rfl rfl ?_
                refine ev_W.fn rfl rfl ?_
                refine ev_W.fn rfl rfl ?_
                refine ev_W.fn rfl rfl ?_
                refine ev_W.fn rfl rfl ?_
                refine ev_W.fn rfl rfl ?_
                exact next _ _ _ _ _ _ (by rw [if_neg (fun q => h5 q.1), if_neg h5, if_pos h8] at k; exact k)
            · have h9 : tx_top w = 43 := lc_en h9
              exact absurd h9 h5
          · have h5 : tx_top w = 43 := lc_en h5
            refine ev_W.fn rfl rfl ?_
            refine ev_W.fn rfl rfl ?_
            refine ev_W.fn rfl rfl ?_
            refine ev_W.br rfl rfl (fun h6 => ?_) (fun h6 => ?_)
            · have h6 : tx_top r = 0 := lc_eq h6
              refine ev_W.fn rfl rfl ?_
              refine ev_W.fn rfl rfl ?_
              refine ev_W.fn rfl rfl ?_
              refine ev_W.br rfl rfl (fun h9 => ?_) (fun h9 => ?_)
              · have h9 : ¬ tx_top w = 43 := lc_ne h9
                exact absurd h5 h9
              · have h9 : tx_top w = 43 := lc_en h9
                refine ev_W.fn rfl rfl ?_
                refine ev_W.fn rfl rfl ?_
                refine ev_W.fn rfl rfl ?_
                refine ev_W.fn rfl rfl ?_
                refine ev_W.fn rfl rfl ?_
                exact next _ _ _ _ _ _ (by rw [if_neg (fun q => q.2.1 h6), if_pos h5] at k; exact k)
            · have h6 : ¬ tx_top r = 0 := lc_ne h6
              refine ev_W.fn rfl rfl ?_
              refine ev_W.fn rfl rfl ?_
              refine ev_W.fn rfl rfl ?_
              refine ev_W.br rfl rfl (fun h7 => ?_) (fun h7 => ?_)
              · have h7 : tx_top r = 47 := lc_eq h7
                refine ev_W.fn rfl rfl ?_
                refine ev_W.fn rfl rfl ?_
                refine ev_W.fn rfl rfl ?_
                refine ev_W.br rfl rfl (fun h9 => ?_) (fun h9 => ?_)
                · have h9 : ¬ tx_top w = 43 := lc_ne h9
                  exact absurd h5 h9
                · have h9 : tx_top w = 43 := lc_en h9
                  refine ev_W.fn rfl rfl ?_
                  refine ev_W.fn rfl rfl ?_
                  refine ev_W.fn rfl rfl ?_
                  refine ev_W.fn rfl rfl ?_
                  refine ev_W.fn rfl rfl ?_
                  exact next _ _ _ _ _ _ (by rw [if_neg (fun q => q.2.2 h7), if_pos h5] at k; exact k)
              · have h7 : ¬ tx_top r = 47 := lc_ne h7
                refine ev_W.fn rfl rfl ?_
                refine ev_W.fn rfl rfl ?_
                refine ev_W.fn rfl rfl ?_
                refine ev_W.fn rfl rfl ?_
                refine ev_W.fn rfl rfl ?_
                exact next _ _ _ _ _ _ (by rw [if_pos ⟨h5, h6, h7⟩] at k; exact k)
        · have h3 : r = 0 := lc_en h3
          refine ev_W.fn rfl rfl ?_
          refine ev_W.fn rfl rfl ?_
          refine ev_W.fn rfl rfl ?_
          refine ev_W.br rfl rfl (fun h4 => ?_) (fun h4 => ?_)
          · have h4 : ¬ w = 3396558543967485952 := lc_ne h4
            rw [if_neg (fun q => q.elim h2 (fun q => h4 q.2))] at k
            refine ev_W.fn rfl rfl ?_
            refine ev_W.fn rfl rfl ?_
            refine ev_W.fn rfl rfl ?_
            refine ev_W.br rfl rfl (fun h5 => ?_) (fun h5 => ?_)
            · have h5 : ¬ tx_top w = 43 := lc_ne h5
              refine ev_W.fn rfl rfl ?_
              refine ev_W.fn rfl rfl ?_
              refine ev_W.fn rfl rfl ?_
              refine ev_W.br rfl rfl (fun h9 => ?_) (fun h9 => ?_)
              · have h9 : ¬ tx_top w = 43 := lc_ne h9
                refine ev_W.fn rfl rfl ?_
                refine ev_W.fn rfl rfl ?_
                refine ev_W.fn rfl rfl ?_
                refine ev_W.br rfl rfl (fun h8 => ?_) (fun h8 => ?_)
                · have h8 : ¬ tx_top w = tx_top r := lc_ne h8
                  refine ev_W.fn rfl rfl ?_
                  refine ev_W.zret rfl (Or.inl rfl) ?_
                  rw [if_neg (fun q => h5 q.1), if_neg h5, if_neg h8] at k
                  exact k
                · have h8 : tx_top w = tx_top r := lc_en h8
                  refine ev_W.fn rfl rfl ?_
                  refine ev_W.fn rfl rfl ?_
                  refine ev_W.fn rfl rfl ?_
                  refine ev_W.fn rfl rfl ?_
                  refine ev_W.fn rfl rfl ?_
                  refine ev_W.fn rfl rfl ?_
                  refine ev_W.fn rfl rfl ?_
                  refine ev_W.fn rfl rfl ?_
                  refine ev_W.fn rfl rfl ?_
                  exact next _ _ _ _ _ _ (by rw [if_neg (fun q => h5 q.1), if_neg h5, if_pos h8] at k; exact k)
              · have h9 : tx_top w = 43 := lc_en h9
                exact absurd h9 h5
            · have h5 : tx_top w = 43 := lc_en h5
              refine ev_W.fn rfl rfl ?_
              refine ev_W.fn rfl rfl ?_
              refine ev_W.fn rfl rfl ?_
              refine ev_W.br rfl rfl (fun h6 => ?_) (fun h6 => ?_)
              · have h6 : tx_top r = 0 := lc_eq h6
                refine ev_W.fn rfl rfl ?_
                refine ev_W.fn rfl rfl ?_
                refine ev_W.fn rfl rfl ?_
                refine ev_W.br rfl rfl (fun h9 => ?_) (fun h9 => ?_)
                · have h9 : ¬ tx_top w = 43 := lc_ne h9
                  exact absurd h5 h9
                · have h9 : tx_top w = 43 := lc_en h9
                  refine ev_W.fn rfl rfl ?_
                  refine ev_W.fn rfl rfl ?_
                  refine ev_W.fn rfl rfl ?_
                  refine ev_W.fn rfl rfl ?_
                  refine ev_W.fn rfl rfl ?_
                  exact next _ _ _ _ _ _ (by rw [if_neg (fun q => q.2.1 h6), if_pos h5] at k; exact k)
              · have h6 : ¬ tx_top r = 0 := lc_ne h6
                refine ev_W.fn rfl rfl ?_
                refine ev_W.fn rfl rfl ?_
                refine ev_W.fn rfl rfl ?_
                refine ev_W.br rfl rfl (fun h7 => ?_) (fun h7 => ?_)
                · have h7 : tx_top r = 47 := lc_eq h7
                  refine ev_W.fn rfl rfl ?_
                  refine ev_W.fn rfl rfl ?_
                  refine ev_W.fn rfl rfl ?_
                  refine ev_W.br rfl rfl (fun h9 => ?_) (fun h9 => ?_)
                  · have h9 : ¬ tx_top w = 43 := lc_ne h9
                    exact absurd h5 h9
                  · have h9 : tx_top w = 43 := lc_en h9
                    refine ev_W.fn rfl rfl ?_
                    refine ev_W.fn rfl rfl ?_
                    refine ev_W.fn rfl rfl ?_
                    refine ev_W.fn rfl rfl ?_
                    refine ev_W.fn rfl rfl ?_
                    exact next _ _ _ _ _ _ (by rw [if_neg (fun q => q.2.2 h7), if_pos h5] at k; exact k)
                · have h7 : ¬ tx_top r = 47 := lc_ne h7
                  refine ev_W.fn rfl rfl ?_
                  refine ev_W.fn rfl rfl ?_
                  refine ev_W.fn rfl rfl ?_
                  refine ev_W.fn rfl rfl ?_
                  refine ev_W.fn rfl rfl ?_
                  exact next _ _ _ _ _ _ (by rw [if_pos ⟨h5, h6, h7⟩] at k; exact k)
          · have h4 : w = 3396558543967485952 := lc_en h4
            refine ev_W.fn rfl rfl ?_
            refine ev_W.zret rfl (Or.inr rfl) ?_
            rw [if_pos (Or.inr ⟨h3, h4⟩)] at k
            exact k
theorem sp_T_covers {f t : Int64} (k : Q (some (.int (zb (tc_cov f t))), h)) : ev_M (mf_T_covers z) [.long f, .long t] h Q := by
  unfold tc_cov at k
  have go : ∀ (op : Int64) (y6 y7 y8 y9 y10 y11 y12 y13 y14 : Option Value), Q (some (.int (zb (tc_go 16 f t))), h) → ev_W (mk_T_covers z) (37, [some (.long f), none, some (.long t), none, some (.long op), none, y6, y7, y8, y9, y10, y11, y12, y13, y14], [], h) Q := by
    intro op y6 y7 y8 y9 y10 y11 y12 y13 y14 k
    refine ev_W.fn rfl rfl ?_
    refine ev_W.fn rfl rfl ?_
    refine ev_W.fn rfl rfl ?_
    refine ev_W.fn rfl rfl ?_
    refine ev_W.fn rfl rfl ?_
    refine ev_W.fn rfl rfl ?_
    exact sp_tc_loop 16 0 f t _ _ _ _ rfl k
  refine ev_M.go rfl rfl ?_
  refine ev_W.fn rfl rfl ?_
  refine ev_W.fn rfl rfl ?_
  refine ev_W.fn rfl rfl ?_
  refine ev_W.fn rfl rfl ?_
  refine ev_W.fn rfl rfl ?_
  refine ev_W.fn rfl rfl ?_
  refine ev_W.fn rfl rfl ?_
  refine ev_W.br rfl rfl (fun h1 => ?_) (fun h1 => ?_)
  · have h1 : tx_top f = 43 := lc_eq h1
    refine ev_W.fn rfl rfl ?_
    refine ev_W.fn rfl rfl ?_
    refine ev_W.fn rfl rfl ?_
    refine ev_W.fn rfl rfl ?_
    refine ev_W.fn rfl rfl ?_
    refine ev_W.br rfl rfl (fun h3 => ?_) (fun h3 => ?_)
    · have h3 : ¬ tx_top t = 36 := lc_ne h3
      exact go _ _ _ _ _ _ _ _ _ _ (by rw [if_neg (fun q => h3 q.2)] at k; exact k)
    · have h3 : tx_top t = 36 := lc_en h3
      refine ev_W.fn rfl rfl ?_
      refine ev_W.zret rfl (Or.inl rfl) ?_
      rw [if_pos ⟨Or.inl h1, h3⟩] at k
      exact k
  · have h1 : ¬ tx_top f = 43 := lc_ne h1
    refine ev_W.fn rfl rfl ?_
    refine ev_W.fn rfl rfl ?_
    refine ev_W.fn rfl rfl ?_
    refine ev_W.br rfl rfl (fun h2 => ?_) (fun h2 => ?_)
    · have h2 : ¬ tx_top f = 35 := lc_ne h2
      exact go _ _ _ _ _ _ _ _ _ _ (by rw [if_neg (fun q => q.1.elim h1 h2)] at k; exact k)
    · have h2 : tx_top f = 35 := lc_en h2
      refine ev_W.fn rfl rfl ?_
      refine ev_W.fn rfl rfl ?_
      refine ev_W.fn rfl rfl ?_
      refine ev_W.fn rfl rfl ?_
      refine ev_W.fn rfl rfl ?_
      refine ev_W.br rfl rfl (fun h3 => ?_) (fun h3 => ?_)
      · have h3 : ¬ tx_top t = 36 := lc_ne h3
        exact go _ _ _ _ _ _ _ _ _ _ (by rw [if_neg (fun q => h3 q.2)] at k; exact k)
      · have h3 : tx_top t = 36 := lc_en h3
        refine ev_W.fn rfl rfl ?_
        refine ev_W.zret rfl (Or.inl rfl) ?_
        rw [if_pos ⟨Or.inr h2, h3⟩] at k
        exact k
end TX
