/-! The reference's texts: what its functions answer (laid by wip/whole/p86.py). -/
def tz_l (x : Int64) (k : Int32) : Int64 := (x.toUInt64 >>> (k.toInt64.toUInt64 &&& Int64.toUInt64 63)).toInt64 &&& 255
def tz_pg (x : Int64) : Nat → Int64 → Int64
  | 0, v => v
  | n + 1, v => if tz_l x (nI (8 * n)) = 0 then tz_pg x n v else tz_pg x n (v * 256 + tz_l x (nI (8 * n)))
def tz_pl (x : Int64) : Int64 := tz_pg x 8 0
def tz_bg (x : Int64) : Nat → List Int32
  | 0 => []
  | n + 1 => if (tz_l x (nI (8 * n))).toInt32 = 0 then tz_bg x n else (tz_l x (nI (8 * n))).toInt32 :: tz_bg x n
def tz_bs (x : Int64) : List Int32 := tz_bg x 8
theorem tz_bg_len (x : Int64) : ∀ n, (tz_bg x n).length ≤ n := by
  intro n
  induction n with
  | zero => exact Nat.le_refl _
  | succ n ih =>
    rw [tz_bg]
    split
    · omega
    · rw [List.length_cons]; omega
theorem tz_bs_len (x : Int64) : (tz_bs x).length ≤ 8 := tz_bg_len x 8
-- scratch arrays alone differ
def sc_ (t t' : rf_S) : Prop := t'.2 = t.2 ∧ ∀ f, f ≠ 63 → f ≠ 64 → t'.1 f = t.1 f
theorem sc_.rf {t : rf_S} : sc_ t t := ⟨rfl, fun _ _ _ => rfl⟩
theorem sc_.tr {t t1 t2 : rf_S} (a : sc_ t t1) (b : sc_ t1 t2) : sc_ t t2 := ⟨b.1.trans a.1, fun f h1 h2 => (b.2 f h1 h2).trans (a.2 f h1 h2)⟩
theorem nI_s8 (n : Nat) : nI (8 * (n + 1)) + (-8) = nI (8 * n) := by
  have e : 8 * (n + 1) = 8 * n + 8 := by omega
  rw [e, ← nI_add, Int32.add_assoc]
  have : nI 8 + (-8) = 0 := by decide
  rw [this, Int32.add_zero]
theorem k8 {n : Nat} (hn : n < 8) : nI (8 * n) + -8 < 0 ↔ n = 0 := by
  rcases (show n = 0 ∨ n = 1 ∨ n = 2 ∨ n = 3 ∨ n = 4 ∨ n = 5 ∨ n = 6 ∨ n = 7 by omega) with rfl | rfl | rfl | rfl | rfl | rfl | rfl | rfl <;> decide
section TZ
variable {z : Nat × Nat} {m0 : Nat} {t : rf_S} {h : ev_H} {Q : ev_O → Prop}
theorem sp_pl_loop {x : Int64} : ∀ (n : Nat) (v : Int64) (y5 y6 : Option Value), n ≤ 8 → Q (some (.long (tz_pg x n v)), h) → ev_W (mk_Z_plain z) (6, [some (.long x), none, some (.long v), none, some (.int (nI (8 * n) + -8)), y5, y6], [], h) Q := by
  intro n
  induction n with
  | zero =>
    intro v y5 y6 hn k
    refine ev_W.fn rfl rfl ?_
    refine ev_W.fn rfl rfl ?_
    refine ev_W.fn rfl rfl ?_
    refine ev_W.ret rfl rfl ?_
    exact k
  | succ n ih =>
    intro v y5 y6 hn k
    rw [nI_s8]
    rw [tz_pg] at k
    have nl : ¬ nI (8 * n) < 0 := nI_pos (by omega)
    refine ev_W.fn rfl rfl ?_
    refine ev_W.brF rfl rfl nl ?_
    refine ev_W.fn rfl rfl ?_
    refine ev_W.fn rfl rfl ?_
    refine ev_W.fn rfl rfl ?_
    refine ev_W.fn rfl rfl ?_
    refine ev_W.fn rfl rfl ?_
    refine ev_W.fn rfl rfl ?_
    refine ev_W.fn rfl rfl ?_
    refine ev_W.fn rfl rfl ?_
    refine ev_W.fn rfl rfl ?_
    refine ev_W.br rfl rfl (fun h1 => ?_) (fun h1 => ?_)
    · have h1 := lc_eq h1
      rw [if_pos (show tz_l x (nI (8 * n)) = 0 from h1)] at k
      refine ev_W.fn rfl rfl ?_
      refine ev_W.fn rfl rfl ?_
      refine ev_W.fn rfl rfl ?_
      refine ev_W.fn rfl rfl ?_
      exact ih _ _ _ (by omega) k
    · refine ev_W.fn rfl rfl ?_
      refine ev_W.fn rfl rfl ?_
      refine ev_W.fn rfl rfl ?_
      refine ev_W.fn rfl rfl ?_
      refine ev_W.fn rfl rfl ?_
      refine ev_W.fn rfl rfl ?_
      have h1 := lc_ne h1
      rw [if_neg (show ¬ tz_l x (nI (8 * n)) = 0 from h1)] at k
      refine ev_W.fn rfl rfl ?_
      refine ev_W.fn rfl rfl ?_
      refine ev_W.fn rfl rfl ?_
      exact ih _ _ _ (by omega) k
theorem sp_Z_plain {x : Int64} (k : Q (some (.long (tz_pl x)), h)) : ev_M (mf_Z_plain z) [.long x] h Q := by
  refine ev_M.go rfl rfl ?_
  refine ev_W.fn rfl rfl ?_
  refine ev_W.fn rfl rfl ?_
  refine ev_W.fn rfl rfl ?_
  refine ev_W.fn rfl rfl ?_
  exact sp_pl_loop 8 0 _ _ (Nat.le_refl _) k
theorem sp_sp_loop {x : Int64} {f : Nat} (hf : f = 63 ∨ f = 64) {Q : ev_O → Prop} : ∀ (n j : Nat) (t : rf_S) (h : ev_H) (y5 : Option Value), n ≤ 8 → j + n ≤ 8 → rf_P z m0 t h → (∀ (t' : rf_S) (h' : ev_H), rf_P z m0 t' h' → rf_E m0 h h' → t'.2 = t.2 → (∀ g, g ≠ f → t'.1 g = t.1 g) → (∀ i, i < j → t'.1 f i = t.1 f i) → (∀ i b, (tz_bg x n)[i]? = some b → t'.1 f (j + i) = b) → Q (some (.int (nI (j + (tz_bg x n).length))), h')) → ev_W (mk_Z_split z) (6, [some (.long x), none, some (.ref (m0 + (1 + rf_r f))), some (.int (nI j)), some (.int (nI (8 * n) + -8)), y5], [], h) Q := by
  have hfk : rf_k f = 0 ∧ rf_n f = 8 := by rcases hf with rfl | rfl <;> exact ⟨rfl, rfl⟩
  intro n
  induction n with
  | zero =>
    intro j t h y5 hn hj P k
    refine ev_W.fn rfl rfl ?_
    refine ev_W.fn rfl rfl ?_
    refine ev_W.fn rfl rfl ?_
    refine ev_W.ret rfl rfl ?_
    exact k t h P rf_E.rf rfl (fun _ _ => rfl) (fun _ _ => rfl) (fun i b hb => by simp [tz_bg] at hb)
  | succ n ih =>
    intro j t h y5 hn hj P k
    rw [nI_s8]
    rw [tz_bg] at k
    have nl : ¬ nI (8 * n) < 0 := nI_pos (by omega)
    refine ev_W.fn rfl rfl ?_
    refine ev_W.brF rfl rfl nl ?_
    refine ev_W.fn rfl rfl ?_
    refine ev_W.fn rfl rfl ?_
    refine ev_W.fn rfl rfl ?_
    refine ev_W.fn rfl rfl ?_
    refine ev_W.fn rfl rfl ?_
    refine ev_W.fn rfl rfl ?_
    refine ev_W.fn rfl rfl ?_
    refine ev_W.fn rfl rfl ?_
    refine ev_W.br rfl rfl (fun h1 => ?_) (fun h1 => ?_)
    · rw [if_pos (show (tz_l x (nI (8 * n))).toInt32 = 0 from h1)] at k
      refine ev_W.fn rfl rfl ?_
      refine ev_W.fn rfl rfl ?_
      exact ih j t h _ (by omega) (by omega) P k
    · have h1 : ¬ (tz_l x (nI (8 * n))).toInt32 = 0 := h1
      rw [if_neg h1] at k
      refine ev_W.fn rfl rfl ?_
      refine ev_W.fn rfl rfl ?_
      refine ev_W.fn rfl rfl ?_
      refine ev_W.si f P hfk.1 (j := j) rfl (by omega) rfl (fun u1 P1 E1 => ?_)
      refine ev_W.fn rfl rfl ?_
      refine ev_W.fn rfl rfl ?_
      refine ev_W.fn rfl rfl ?_
      have := ih (j + 1) (uI t f j (tz_l x (nI (8 * n))).toInt32) u1 (some (.int (tz_l x (nI (8 * n))).toInt32)) (by omega) (by omega) P1 (fun t' h' P' E' e2 e3 e4 e5 => ?_)
      · rw [← nI_1] at this
        exact this
      · have := k t' h' P' (E1.tr E') e2 (fun g hg => by rw [e3 g hg]; simp [uI, hg]) (fun i hi => by rw [e4 i (by omega)]; simp [uI, va_up, show i ≠ j by omega]) (fun i b hb => ?_)
        · rw [List.length_cons] at this
          have e : j + 1 + (tz_bg x n).length = j + ((tz_bg x n).length + 1) := by omega
          rw [e]; exact this
        · cases i with
          | zero =>
            simp only [List.getElem?_cons_zero, Option.some.injEq] at hb
            rw [Nat.add_zero, e4 j (by omega)]
            simp [uI, va_up, hb]
          | succ i =>
            simp only [List.getElem?_cons_succ] at hb
            have := e5 i b hb
            rw [show j + (i + 1) = j + 1 + i by omega]; exact this
theorem sp_Z_split63 {x : Int64} (P : rf_P z m0 t h) (k : ∀ (t' : rf_S) (h' : ev_H), rf_P z m0 t' h' → rf_E m0 h h' → t'.2 = t.2 → (∀ g, g ≠ 63 → t'.1 g = t.1 g) → (∀ i b, (tz_bs x)[i]? = some b → t'.1 63 i = b) → Q (some (.int (nI (tz_bs x).length)), h')) : ev_M (mf_Z_split z) [.long x, .ref (m0 + (1 + rf_r 63))] h Q := by
  refine ev_M.go rfl rfl ?_
  refine ev_W.fn rfl rfl ?_
  refine ev_W.fn rfl rfl ?_
  refine ev_W.fn rfl rfl ?_
  refine ev_W.fn rfl rfl ?_
  refine sp_sp_loop (f := 63) (by decide) 8 0 t h none (Nat.le_refl _) (Nat.le_refl _) P (fun t' h' P' E' e2 e3 _ e5 => ?_)
  rw [Nat.zero_add]
  exact k t' h' P' E' e2 e3 (fun i b hb => by have := e5 i b hb; rw [Nat.zero_add] at this; exact this)
theorem sp_Z_split64 {x : Int64} (P : rf_P z m0 t h) (k : ∀ (t' : rf_S) (h' : ev_H), rf_P z m0 t' h' → rf_E m0 h h' → t'.2 = t.2 → (∀ g, g ≠ 64 → t'.1 g = t.1 g) → (∀ i b, (tz_bs x)[i]? = some b → t'.1 64 i = b) → Q (some (.int (nI (tz_bs x).length)), h')) : ev_M (mf_Z_split z) [.long x, .ref (m0 + (1 + rf_r 64))] h Q := by
  refine ev_M.go rfl rfl ?_
  refine ev_W.fn rfl rfl ?_
  refine ev_W.fn rfl rfl ?_
  refine ev_W.fn rfl rfl ?_
  refine ev_W.fn rfl rfl ?_
  refine sp_sp_loop (f := 64) (by decide) 8 0 t h none (Nat.le_refl _) (Nat.le_refl _) P (fun t' h' P' E' e2 e3 _ e5 => ?_)
  rw [Nat.zero_add]
  exact k t' h' P' E' e2 e3 (fun i b hb => by have := e5 i b hb; rw [Nat.zero_add] at this; exact this)
theorem sp_Z_isLetter {x : Int32} (k : Q (some (.int (zb (tx_pl x))), h)) : ev_M (mf_Z_isLetter z) [.int x] h Q := by
  unfold tx_pl at k
  refine ev_M.go rfl rfl ?_
  refine ev_W.fn rfl rfl ?_
  refine ev_W.fn rfl rfl ?_
  refine ev_W.br rfl rfl (fun h1 => ?_) (fun h1 => ?_)
  · refine ev_W.fn rfl rfl ?_
    refine ev_W.fn rfl rfl ?_
    refine ev_W.br rfl rfl (fun h3 => ?_) (fun h3 => ?_)
    · refine ev_W.fn rfl rfl ?_
      refine ev_W.fn rfl rfl ?_
      refine ev_W.br rfl rfl (fun h5 => ?_) (fun h5 => ?_)
      · refine ev_W.fn rfl rfl ?_
        refine ev_W.fn rfl rfl ?_
        refine ev_W.zret rfl (Or.inr rfl) ?_
        simpa [h5, zb] using k
      · refine ev_W.fn rfl rfl ?_
        refine ev_W.fn rfl rfl ?_
        refine ev_W.br rfl rfl (fun h6 => ?_) (fun h6 => ?_)
        · refine ev_W.fn rfl rfl ?_
          refine ev_W.zret rfl (Or.inl rfl) ?_
          have g1 : ¬ (97 ≤ x ∧ x ≤ 122) := fun q => Int32.not_le.mpr h1 q.1
          have g2 : ¬ (48 ≤ x ∧ x ≤ 57) := fun q => Int32.not_le.mpr h3 q.1
          rw [decide_eq_false g1, decide_eq_false g2, decide_eq_false h5, decide_eq_false h6] at k
          exact k
        · have h6 := Decidable.not_not.mp h6
          refine ev_W.fn rfl rfl ?_
          refine ev_W.fn rfl rfl ?_
          refine ev_W.zret rfl (Or.inr rfl) ?_
          simpa [h6, zb] using k
    · refine ev_W.fn rfl rfl ?_
      refine ev_W.fn rfl rfl ?_
      refine ev_W.br rfl rfl (fun h4 => ?_) (fun h4 => ?_)
      · have g : 48 ≤ x ∧ x ≤ 57 := ⟨Int32.not_lt.mp h3, h4⟩
        refine ev_W.fn rfl rfl ?_
        refine ev_W.fn rfl rfl ?_
        refine ev_W.zret rfl (Or.inr rfl) ?_
        simpa [g, zb] using k
      · refine ev_W.fn rfl rfl ?_
        refine ev_W.fn rfl rfl ?_
        refine ev_W.br rfl rfl (fun h5 => ?_) (fun h5 => ?_)
        · refine ev_W.fn rfl rfl ?_
          refine ev_W.fn rfl rfl ?_
          refine ev_W.zret rfl (Or.inr rfl) ?_
          simpa [h5, zb] using k
        · refine ev_W.fn rfl rfl ?_
          refine ev_W.fn rfl rfl ?_
          refine ev_W.br rfl rfl (fun h6 => ?_) (fun h6 => ?_)
          · refine ev_W.fn rfl rfl ?_
            refine ev_W.zret rfl (Or.inl rfl) ?_
            have g1 : ¬ (97 ≤ x ∧ x ≤ 122) := fun q => Int32.not_le.mpr h1 q.1
            have g2 : ¬ (48 ≤ x ∧ x ≤ 57) := fun q => h4 q.2
            rw [decide_eq_false g1, decide_eq_false g2, decide_eq_false h5, decide_eq_false h6] at k
            exact k
          · have h6 := Decidable.not_not.mp h6
            refine ev_W.fn rfl rfl ?_
            refine ev_W.fn rfl rfl ?_
            refine ev_W.zret rfl (Or.inr rfl) ?_
            simpa [h6, zb] using k
  · refine ev_W.fn rfl rfl ?_
    refine ev_W.fn rfl rfl ?_
    refine ev_W.br rfl rfl (fun h2 => ?_) (fun h2 => ?_)
    · have g : 97 ≤ x ∧ x ≤ 122 := ⟨Int32.not_lt.mp h1, h2⟩
      refine ev_W.fn rfl rfl ?_
      refine ev_W.fn rfl rfl ?_
      refine ev_W.zret rfl (Or.inr rfl) ?_
      simpa [g, zb] using k
    · refine ev_W.fn rfl rfl ?_
      refine ev_W.fn rfl rfl ?_
      refine ev_W.br rfl rfl (fun h3 => ?_) (fun h3 => ?_)
      · refine ev_W.fn rfl rfl ?_
        refine ev_W.fn rfl rfl ?_
        refine ev_W.br rfl rfl (fun h5 => ?_) (fun h5 => ?_)
        · refine ev_W.fn rfl rfl ?_
          refine ev_W.fn rfl rfl ?_
          refine ev_W.zret rfl (Or.inr rfl) ?_
          simpa [h5, zb] using k
        · refine ev_W.fn rfl rfl ?_
          refine ev_W.fn rfl rfl ?_
          refine ev_W.br rfl rfl (fun h6 => ?_) (fun h6 => ?_)
          · refine ev_W.fn rfl rfl ?_
            refine ev_W.zret rfl (Or.inl rfl) ?_
            have g1 : ¬ (97 ≤ x ∧ x ≤ 122) := fun q => h2 q.2
            have g2 : ¬ (48 ≤ x ∧ x ≤ 57) := fun q => Int32.not_le.mpr h3 q.1
            rw [decide_eq_false g1, decide_eq_false g2, decide_eq_false h5, decide_eq_false h6] at k
            exact k
          · have h6 := Decidable.not_not.mp h6
            refine ev_W.fn rfl rfl ?_
            refine ev_W.fn rfl rfl ?_
            refine ev_W.zret rfl (Or.inr rfl) ?_
            simpa [h6, zb] using k
      · refine ev_W.fn rfl rfl ?_
        refine ev_W.fn rfl rfl ?_
        refine ev_W.br rfl rfl (fun h4 => ?_) (fun h4 => ?_)
        · have g : 48 ≤ x ∧ x ≤ 57 := ⟨Int32.not_lt.mp h3, h4⟩
          refine ev_W.fn rfl rfl ?_
          refine ev_W.fn rfl rfl ?_
          refine ev_W.zret rfl (Or.inr rfl) ?_
          simpa [g, zb] using k
        · refine ev_W.fn rfl rfl ?_
          refine ev_W.fn rfl rfl ?_
          refine ev_W.br rfl rfl (fun h5 => ?_) (fun h5 => ?_)
          · refine ev_W.fn rfl rfl ?_
            refine ev_W.fn rfl rfl ?_
            refine ev_W.zret rfl (Or.inr rfl) ?_
            simpa [h5, zb] using k
          · refine ev_W.fn rfl rfl ?_
            refine ev_W.fn rfl rfl ?_
            refine ev_W.br rfl rfl (fun h6 => ?_) (fun h6 => ?_)
            · refine ev_W.fn rfl rfl ?_
              refine ev_W.zret rfl (Or.inl rfl) ?_
              have g1 : ¬ (97 ≤ x ∧ x ≤ 122) := fun q => h2 q.2
              have g2 : ¬ (48 ≤ x ∧ x ≤ 57) := fun q => h4 q.2
              rw [decide_eq_false g1, decide_eq_false g2, decide_eq_false h5, decide_eq_false h6] at k
              exact k
            · have h6 := Decidable.not_not.mp h6
              refine ev_W.fn rfl rfl ?_
              refine ev_W.fn rfl rfl ?_
              refine ev_W.zret rfl (Or.inr rfl) ?_
              simpa [h6, zb] using k
end TZ
