/-! Accepting and closing (laid by wip/whole/p76.py). -/
def M_rm (s : hb_S) (c : Nat) (m : hb_Ms) (i : Nat) : Bool := decide ((sM s i).length + (sP s (3 + i)).length + M_ck (sB s i) m (decide (i = c)) ≤ 6)
def M_rmF (s : hb_S) (c : Nat) (m : hb_Ms) : Nat → Nat → Bool
  | 0, _ => true
  | n + 1, i => if M_rm s c m i = true then M_rmF s c m n (i + 1) else false
def M_spF (c : Nat) (m : hb_Ms) : Nat → Nat → hb_S → hb_S
  | 0, _, s => s
  | n + 1, i, s => M_spF c m n (i + 1) (M_spr (sB s i) s i m (decide (i = c)))
def M_puF : Nat → Nat → hb_S → hb_S
  | 0, _, s => s
  | n + 1, i, s => M_puF n (i + 1) (M_pump s i)
def M_ret (s : hb_S) (m : hb_Ms) : hb_S := if m.2.2.2 = true then M_retain s m else s
def M_acc (s : hb_S) (c : Nat) (m : hb_Ms) : hb_S × Bool := if M_rmF s c m 3 0 = true then (M_puF 3 0 (M_ret (M_spF c m 3 0 s) m), true) else (s, false)
def M_cn (s : hb_S) (c : Nat) : hb_S := M_outlive (if sI s 1 c = 0 then tI s 5 c 0 else M_close (tI s 5 c 0) c) c
def M_ca (s : hb_S) (c : Nat) : hb_S := if sJ (M_cn s c) 1 c = 0 then M_cn s c else (M_acc (M_cn s c) c (sJ (M_cn s c) 1 c, sI (M_cn s c) 9 c, 1, false)).1
def M_bd1 (s : hb_S) (c : Nat) : hb_S := M_outlive (M_close (tI s 5 c 0) c) c
def M_bd (s : hb_S) : hb_S := M_bd1 (M_bd1 (M_bd1 s 0) 1) 2
def M_tk1 (s : hb_S) (c : Nat) : hb_S × Bool := if sI s 5 c = 0 then M_cd s c else if (M_gs s c).2 = true then (M_ca (M_gs s c).1 c, true) else ((M_gs s c).1, false)
def M_tkF : Nat → Nat → hb_S → Nat → hb_S × Nat
  | 0, _, s, n => (s, n)
  | k + 1, i, s, n => M_tkF k (i + 1) (M_tk1 s i).1 (if (M_tk1 s i).2 = true then n + 1 else n)
-- what bounds there are
def ba (D : Nat) (s : hb_S) (j : Nat) : Prop := (sB s j).length ≤ 4 ∧ (sM s j).length + (sP s (3 + j)).length ≤ 6 ∧ (sN s (2 * j + 1)).length ≤ D + (sP s (3 + j)).length ∧ sI s 6 j ≤ 3 ∧ (sP s (3 + j)).length ≤ 3
theorem M_st_ok (s : hb_S) (c : Nat) (m : hb_Ms) (q : List hb_Ms) : sI (M_st s c m q) = sI s ∧ sJ (M_st s c m q) = sJ s ∧ sX (M_st s c m q) = sX s ∧ sB (M_st s c m q) = sB s ∧ (∀ l, l ≠ 2 * c + 1 → sN (M_st s c m q) l = sN s l) ∧ (∀ l, l ≠ 3 + c → sP (M_st s c m q) l = sP s l) ∧ (∀ l, l ≠ c → sM (M_st s c m q) l = sM s l) ∧ sM (M_st s c m q) c = q ∧ sP (M_st s c m q) (3 + c) = sP s (3 + c) ++ [(m, 1, nI (pa_id (sP s (3 + c))))] ∧ (sN (M_st s c m q) (2 * c + 1)).length ≤ (sN s (2 * c + 1)).length + 1 := by
  unfold M_st
  refine ⟨sI_send _ _ _, sJ_send _ _ _, sX_send _ _ _, sB_send _ _ _, fun l hl => (sN_send_ne _ _ _ hl).trans rfl, fun l hl => ?_, fun l hl => ?_, ?_, ?_, sN_send_len _ _ _⟩
  · rw [sP_send]; simp [st_a, hl]
  · rw [sM_send]; simp [st_a, hl]
  · rw [sM_send]; simp [st_a]
  · rw [sP_send]; simp [st_a]
theorem M_pm_ok (w : Int32) (hw : w ≤ 3) : ∀ (n : Nat) (s : hb_S) (c : Nat), (sP s (3 + c)).length ≤ 40 → sI (M_pm n s c w) = sI s ∧ sJ (M_pm n s c w) = sJ s ∧ sX (M_pm n s c w) = sX s ∧ sB (M_pm n s c w) = sB s ∧ (∀ l, l ≠ 2 * c + 1 → sN (M_pm n s c w) l = sN s l) ∧ (∀ l, l ≠ 3 + c → sP (M_pm n s c w) l = sP s l) ∧ (∀ l, l ≠ c → sM (M_pm n s c w) l = sM s l) ∧ (sM (M_pm n s c w) c).length + (sP (M_pm n s c w) (3 + c)).length = (sM s c).length + (sP s (3 + c)).length ∧ (sN (M_pm n s c w) (2 * c + 1)).length + (sP s (3 + c)).length ≤ (sN s (2 * c + 1)).length + (sP (M_pm n s c w) (3 + c)).length ∧ ((sP (M_pm n s c w) (3 + c)).length ≤ 3 ∨ (sP (M_pm n s c w) (3 + c)).length ≤ (sP s (3 + c)).length) := by
  intro n
  induction n with
  | zero => intro s c _; exact ⟨rfl, rfl, rfl, rfl, fun _ _ => rfl, fun _ _ => rfl, fun _ _ => rfl, rfl, Nat.le_refl _, Or.inr (Nat.le_refl _)⟩
  | succ n ih =>
    intro s c h40
    rw [M_pm]
    split
    · exact ⟨rfl, rfl, rfl, rfl, fun _ _ => rfl, fun _ _ => rfl, fun _ _ => rfl, rfl, Nat.le_refl _, Or.inr (Nat.le_refl _)⟩
    · rename_i h1
      cases hq : sM s c with
      | nil => dsimp only; exact ⟨rfl, rfl, rfl, rfl, fun _ _ => rfl, fun _ _ => rfl, fun _ _ => rfl, by rw [hq], Nat.le_refl _, Or.inr (Nat.le_refl _)⟩
      | cons m q =>
        dsimp only
        have hu : (sP s (3 + c)).length < 3 := (nI_ltI (b := 3) (by omega) (by decide)).mp (Int32.lt_of_lt_of_le (Int32.not_le.mp h1) hw)
        obtain ⟨a1, a2, a3, a4, a5, a6, a7, a8, a9, a10⟩ := M_st_ok s c m q
        have a9l : (sP (M_st s c m q) (3 + c)).length = (sP s (3 + c)).length + 1 := by rw [a9]; simp
        have a8l : (sM (M_st s c m q) c).length = q.length := by rw [a8]
        obtain ⟨b1, b2, b3, b4, b5, b6, b7, b8, b9, b10⟩ := ih (M_st s c m q) c (by omega)
        refine ⟨b1.trans a1, b2.trans a2, b3.trans a3, b4.trans a4, fun l hl => (b5 l hl).trans (a5 l hl), fun l hl => (b6 l hl).trans (a6 l hl), fun l hl => (b7 l hl).trans (a7 l hl), ?_, by omega, by omega⟩
        rw [List.length_cons]; omega
theorem M_win_le {s : hb_S} {c : Nat} (hw : sI s 6 c ≤ 3) : M_win s c ≤ 3 := by
  unfold M_win; split
  · decide
  · exact hw
theorem M_pump_ok (s : hb_S) (c : Nat) (hw : sI s 6 c ≤ 3) (h40 : (sP s (3 + c)).length ≤ 40) : sI (M_pump s c) = sI s ∧ sJ (M_pump s c) = sJ s ∧ sX (M_pump s c) = sX s ∧ sB (M_pump s c) = sB s ∧ (∀ l, l ≠ 2 * c + 1 → sN (M_pump s c) l = sN s l) ∧ (∀ l, l ≠ 3 + c → sP (M_pump s c) l = sP s l) ∧ (∀ l, l ≠ c → sM (M_pump s c) l = sM s l) ∧ (sM (M_pump s c) c).length + (sP (M_pump s c) (3 + c)).length = (sM s c).length + (sP s (3 + c)).length ∧ (sN (M_pump s c) (2 * c + 1)).length + (sP s (3 + c)).length ≤ (sN s (2 * c + 1)).length + (sP (M_pump s c) (3 + c)).length ∧ ((sP (M_pump s c) (3 + c)).length ≤ 3 ∨ (sP (M_pump s c) (3 + c)).length ≤ (sP s (3 + c)).length) := M_pm_ok _ (M_win_le hw) _ _ _ h40
theorem M_pump_ba {D : Nat} {s : hb_S} {i j : Nat} (hi : i < 3) (hj : j < 3) (hw : sI s 6 i ≤ 3) (h40 : (sP s (3 + i)).length ≤ 40) (h : ba D s j) : ba D (M_pump s i) j := by
  obtain ⟨a1, a2, a3, a4, a5, a6, a7, a8, a9, a10⟩ := M_pump_ok s i hw h40
  unfold ba at *
  obtain ⟨h1, h2, h3, h4, h5⟩ := h
  by_cases e : j = i
  · subst e; rw [a1, a4]; exact ⟨h1, by omega, by omega, h4, by omega⟩
  · rw [a1, a4, a5 _ (by omega), a6 _ (by omega), a7 _ e]; exact ⟨h1, h2, h3, h4, h5⟩
theorem M_puF_ba : ∀ (n i : Nat) (s : hb_S), i + n = 3 → (∀ j, j < 3 → ba 20 s j) → ∀ D j, j < 3 → ba D s j → ba D (M_puF n i s) j := by
  intro n
  induction n with
  | zero => intro i s _ _ D j _ h; exact h
  | succ n ih =>
    intro i s hi hs D j hj h
    rw [M_puF]
    have hii := hs i (by omega)
    exact ih (i + 1) _ (by omega) (fun j hj => M_pump_ba (by omega) hj hii.2.2.2.1 (by have := hii.2.2.2.2; omega) (hs j hj)) D j hj (M_pump_ba (by omega) hj hii.2.2.2.1 (by have := hii.2.2.2.2; omega) h)
-- a sharing out
theorem M_spF_ok (c : Nat) (m : hb_Ms) : ∀ (n i : Nat) (s : hb_S), sI (M_spF c m n i s) = sI s ∧ sJ (M_spF c m n i s) = sJ s ∧ sX (M_spF c m n i s) = sX s ∧ sP (M_spF c m n i s) = sP s ∧ sB (M_spF c m n i s) = sB s ∧ (∀ l, (∀ k, i ≤ k → k < i + n → l ≠ 2 * k + 1) → sN (M_spF c m n i s) l = sN s l) ∧ (∀ l, (l < i ∨ i + n ≤ l) → sM (M_spF c m n i s) l = sM s l) ∧ (∀ k, i ≤ k → k < i + n → (sM (M_spF c m n i s) k).length = (sM s k).length + M_ck (sB s k) m (decide (k = c)) ∧ ((sN (M_spF c m n i s) (2 * k + 1)).length ≤ 12 ∨ (sN (M_spF c m n i s) (2 * k + 1)).length ≤ (sN s (2 * k + 1)).length)) := by
  intro n
  induction n with
  | zero => intro i s; exact ⟨rfl, rfl, rfl, rfl, rfl, fun _ _ => rfl, fun _ _ => rfl, fun k h1 h2 => by omega⟩
  | succ n ih =>
    intro i s
    rw [M_spF]
    obtain ⟨a1, a2, a3, a4, a5, a6, a7, a8, a9⟩ := M_spr_ok (sB s i) s i m (decide (i = c))
    obtain ⟨b1, b2, b3, b4, b5, b6, b7, b8⟩ := ih (i + 1) (M_spr (sB s i) s i m (decide (i = c)))
    refine ⟨b1.trans a1, b2.trans a2, b3.trans a3, b4.trans a4, b5.trans a5, fun l hl => ?_, fun l hl => ?_, fun k h1 h2 => ?_⟩
    · rw [b6 l (fun k h1 h2 => hl k (by omega) (by omega)), a6 l (hl i (by omega) (by omega))]
    · rw [b7 l (by omega), a7 l (by omega)]
    · by_cases e : k = i
      · subst e
        rw [b7 k (by omega), b6 (2 * k + 1) (fun j h3 h4 => by omega)]
        exact ⟨a8, a9⟩
      · have := b8 k (by omega) (by omega)
        rw [a7 k e, a5, a6 (2 * k + 1) (by omega)] at this
        exact this
theorem M_retain_ok (s : hb_S) (m : hb_Ms) : sI (M_ret s m) = sI s ∧ sJ (M_ret s m) = sJ s ∧ sX (M_ret s m) = sX s ∧ sP (M_ret s m) = sP s ∧ sB (M_ret s m) = sB s ∧ sN (M_ret s m) = sN s ∧ (∀ l, l ≠ 3 → sM (M_ret s m) l = sM s l) := by
  unfold M_ret
  split
  · unfold M_retain
    split
    · split
      · exact ⟨rfl, rfl, rfl, rfl, rfl, rfl, fun l hl => by simp [st_a, hl]⟩
      · exact ⟨rfl, rfl, rfl, rfl, rfl, rfl, fun l hl => by simp [st_a, hl]⟩
    · split
      · exact ⟨rfl, rfl, rfl, rfl, rfl, rfl, fun l hl => by simp [st_a, hl]⟩
      · exact ⟨rfl, rfl, rfl, rfl, rfl, rfl, fun _ _ => rfl⟩
  · exact ⟨rfl, rfl, rfl, rfl, rfl, rfl, fun _ _ => rfl⟩
theorem M_rmF_all (s : hb_S) (c : Nat) (m : hb_Ms) : ∀ (n i : Nat), M_rmF s c m n i = true → ∀ k, i ≤ k → k < i + n → (sM s k).length + (sP s (3 + k)).length + M_ck (sB s k) m (decide (k = c)) ≤ 6 := by
  intro n
  induction n with
  | zero => intro i _ k h1 h2; omega
  | succ n ih =>
    intro i h k h1 h2
    rw [M_rmF] at h
    split at h
    · rename_i hr
      by_cases e : k = i
      · subst e; exact of_decide_eq_true hr
      · exact ih (i + 1) h k (by omega) (by omega)
    · cases h
-- the state in the midst of accepting
theorem M_mid_ba {D : Nat} {s : hb_S} {c : Nat} {m : hb_Ms} {j : Nat} (hD : 12 ≤ D) (hj : j < 3) (hr : M_rmF s c m 3 0 = true) (h : ba D s j) : ba D (M_ret (M_spF c m 3 0 s) m) j := by
  obtain ⟨a1, a2, a3, a4, a5, a6, a7, a8⟩ := M_spF_ok c m 3 0 s
  obtain ⟨b1, b2, b3, b4, b5, b6, b7⟩ := M_retain_ok (M_spF c m 3 0 s) m
  obtain ⟨c1, c2⟩ := a8 j (by omega) (by omega)
  have hk := M_rmF_all s c m 3 0 hr j (by omega) (by omega)
  unfold ba at *
  rw [b1, b4, b5, b6, b7 j (by omega), a1, a4, a5]
  obtain ⟨h1, h2, h3, h4, h5⟩ := h
  exact ⟨h1, by omega, by omega, h4, h5⟩
theorem M_acc_ba {D : Nat} {s : hb_S} {c : Nat} {m : hb_Ms} {j : Nat} (hD : 12 ≤ D) (hs : ∀ j, j < 3 → ba 20 s j) (hj : j < 3) (h : ba D s j) : ba D (M_acc s c m).1 j := by
  unfold M_acc
  split
  · rename_i hr
    exact M_puF_ba 3 0 _ rfl (fun j hj => M_mid_ba (by decide) hj hr (hs j hj)) D j hj (M_mid_ba hD hj hr h)
  · exact h
section AC2
variable {z : Nat × Nat} {sz dyn : Nat} {mu : Nat → Option ev_E} {c : Nat} {Q : ev_O → Prop}
theorem sp_ac_l1 {n1 n2 : Nat} {G : hb_G} {s : hb_S} {h : ev_H} {ma : Nat} {m : hb_Ms} (R : hb_R z sz dyn mu G n1 n2 s h) (hc : c < 3) (hm : ms_at dyn G h ma m) : ∀ (n i : Nat), i + n = 3 → (M_rmF s c m n i = false → Q (some (.int 0), h)) → (M_rmF s c m n i = true → ∀ y : Option Value, ev_W (mk_B_accept z) (50, [some (.ref (sz + 24)), some (.int (nI c)), some (.ref ma), y], [], h) Q) → ev_W (mk_B_accept z) (2, [some (.ref (sz + 24)), some (.int (nI c)), some (.ref ma), some (.int (nI i))], [], h) Q := by
  intro n
  induction n with
  | zero =>
    intro i hi k0 k
    refine ev_W.fn rfl rfl ?_
    refine ev_W.fn rfl rfl ?_
    refine ev_W.brT rfl rfl (nI_le (a := 3) (b := i) (by omega) (by omega)) ?_
    exact k rfl _
  | succ n ih =>
    intro i hin k0 k
    have hi : i < 3 := by omega
    have hMl := R.mlen (l := i) (by omega)
    have hPl := R.plen (l := 3 + i) (by omega)
    have hck := M_ck_le (sB s i) m (decide (i = c))
    have hBl := R.blen (l := i) (by omega)
    rw [M_rmF] at k k0
    refine ev_W.fn rfl rfl ?_
    refine ev_W.fn rfl rfl ?_
    refine ev_W.brF rfl rfl (nI_ge (a := i) (b := 3) (by omega) (by decide)) ?_
    refine ev_W.fn rfl rfl ?_
    refine ev_W.obj rfl R.o5 rfl ?_
    refine ev_W.fn rfl rfl ?_
    refine ev_W.sk R hi rfl ?_
    refine ev_W.clR rfl rfl rfl rfl rfl (R.o7 hi) ?_
    refine sp_S_load R hi ?_
    refine ev_W.fn rfl rfl ?_
    refine ev_W.obj rfl R.o5 rfl ?_
    refine ev_W.fn rfl rfl ?_
    refine ev_W.sk R hi rfl ?_
    refine ev_W.fn rfl rfl ?_
    refine ev_W.fn rfl rfl ?_
    refine ev_W.fn rfl rfl ?_
    refine ev_W.br rfl rfl (fun h1 => ?_) (fun h1 => ?_)
    · have hic : decide (i = c) = false := decide_eq_false (fun q => h1 (by rw [q]))
      refine ev_W.fn rfl rfl ?_
      refine ev_W.clR rfl rfl rfl rfl rfl (R.o7 hi) ?_
      refine sp_S_countKept (own := false) R hi hm ?_
      rw [← hic]
      refine ev_W.fn rfl rfl ?_
      refine ev_W.fn rfl rfl ?_
      refine ev_W.br rfl rfl (fun h2 => ?_) (fun h2 => ?_)
      · have h2 : M_rm s c m i = true := decide_eq_true ((nI_leI (b := 6) (by omega) (by decide)).mp (by rw [nI_add] at h2; exact h2))
        rw [if_pos h2] at k k0
        have := ih (i + 1) (by omega) k0 k
        rw [← nI_1] at this
        refine ev_W.fn rfl rfl ?_
        refine ev_W.fn rfl rfl ?_
        exact this
      · refine ev_W.fn rfl rfl ?_
        refine ev_W.zret rfl (Or.inl rfl) ?_
        have h2 : ¬ M_rm s c m i = true := fun q => h2 (by rw [nI_add]; exact nI_le (b := 6) (of_decide_eq_true q) (by decide))
        exact k0 (by rw [if_neg h2])
    · have hic : decide (i = c) = true := decide_eq_true ((nI_eq (by omega) (by omega)).mp (Decidable.not_not.mp h1))
      refine ev_W.fn rfl rfl ?_
      refine ev_W.fn rfl rfl ?_
      refine ev_W.clR rfl rfl rfl rfl rfl (R.o7 hi) ?_
      refine sp_S_countKept (own := true) R hi hm ?_
      rw [← hic]
      refine ev_W.fn rfl rfl ?_
      refine ev_W.fn rfl rfl ?_
      refine ev_W.br rfl rfl (fun h2 => ?_) (fun h2 => ?_)
      · have h2 : M_rm s c m i = true := decide_eq_true ((nI_leI (b := 6) (by omega) (by decide)).mp (by rw [nI_add] at h2; exact h2))
        rw [if_pos h2] at k k0
        have := ih (i + 1) (by omega) k0 k
        rw [← nI_1] at this
        refine ev_W.fn rfl rfl ?_
        refine ev_W.fn rfl rfl ?_
        exact this
      · refine ev_W.fn rfl rfl ?_
        refine ev_W.zret rfl (Or.inl rfl) ?_
        have h2 : ¬ M_rm s c m i = true := fun q => h2 (by rw [nI_add]; exact nI_le (b := 6) (of_decide_eq_true q) (by decide))
        exact k0 (by rw [if_neg h2])
theorem sp_ac_l2 (hc : c < 3) {ma : Nat} {m : hb_Ms} : ∀ (n i n1 n2 : Nat) (G : hb_G) (s : hb_S) (h : ev_H), i + n = 3 → hb_R z sz dyn mu G n1 n2 s h → ms_at dyn G h ma m → (∀ j, i ≤ j → j < 3 → (sB s j).length ≤ 4 ∧ (sM s j).length ≤ 16) → (∀ (G' : hb_G) (h' : ev_H) (y : Option Value), hb_R z sz dyn mu G' (n1 + 12 * n) (n2 + 216 * n) (M_spF c m n i s) h' → hb_E dyn G h G' h' → ms_at dyn G' h' ma m → ev_W (mk_B_accept z) (79, [some (.ref (sz + 24)), some (.int (nI c)), some (.ref ma), y], [], h') Q) → ev_W (mk_B_accept z) (52, [some (.ref (sz + 24)), some (.int (nI c)), some (.ref ma), some (.int (nI i))], [], h) Q := by
  intro n
  induction n with
  | zero =>
    intro i n1 n2 G s h hi R hm hb k
    refine ev_W.fn rfl rfl ?_
    refine ev_W.fn rfl rfl ?_
    refine ev_W.brT rfl rfl (nI_le (a := 3) (b := i) (by omega) (by omega)) ?_
    exact k _ _ _ R hb_E.rf hm
  | succ n ih =>
    intro i n1 n2 G s h hin R hm hb k
    have hi : i < 3 := by omega
    obtain ⟨hb1, hb2⟩ := hb i (Nat.le_refl _) hi
    obtain ⟨a1, a2, a3, a4, a5, a6, a7, a8, a9⟩ := M_spr_ok (sB s i) s i m (decide (i = c))
    rw [M_spF] at k
    refine ev_W.fn rfl rfl ?_
    refine ev_W.fn rfl rfl ?_
    refine ev_W.brF rfl rfl (nI_ge (a := i) (b := 3) (by omega) (by decide)) ?_
    refine ev_W.fn rfl rfl ?_
    refine ev_W.fn rfl rfl ?_
    refine ev_W.fn rfl rfl ?_
    refine ev_W.fn rfl rfl ?_
    refine ev_W.fn rfl rfl ?_
    refine ev_W.br rfl rfl (fun h1 => ?_) (fun h1 => ?_)
    · have hic : decide (i = c) = false := decide_eq_false (fun q => h1 (by rw [q]))
      refine ev_W.fn rfl rfl ?_
      refine ev_W.clR rfl rfl rfl rfl rfl R.o5 ?_
      refine sp_B_spread (own := false) R hi hm hb1 hb2 (fun G1 u1 R1 E1 => ?_)
      have hm := E1.ms R hm
      rw [← hic] at R1
      have := ih (i + 1) _ _ _ _ _ (by omega) R1 hm (fun j h1 h2 => by rw [a5, a7 j (by omega)]; exact hb j (by omega) h2) (fun G' h' y R' E' hm' => k G' h' y (R'.up (by omega) (by omega)) (E1.tr E') hm')
      rw [← nI_1] at this
      refine ev_W.fn rfl rfl ?_
      refine ev_W.fn rfl rfl ?_
      exact this
    · have hic : decide (i = c) = true := decide_eq_true ((nI_eq (by omega) (by omega)).mp (Decidable.not_not.mp h1))
      refine ev_W.fn rfl rfl ?_
      refine ev_W.fn rfl rfl ?_
      refine ev_W.clR rfl rfl rfl rfl rfl R.o5 ?_
      refine sp_B_spread (own := true) R hi hm hb1 hb2 (fun G2 u2 R2 E2 => ?_)
      have hm := E2.ms R hm
      rw [← hic] at R2
      have := ih (i + 1) _ _ _ _ _ (by omega) R2 hm (fun j h1 h2 => by rw [a5, a7 j (by omega)]; exact hb j (by omega) h2) (fun G' h' y R' E' hm' => k G' h' y (R'.up (by omega) (by omega)) (E2.tr E') hm')
      rw [← nI_1] at this
      refine ev_W.fn rfl rfl ?_
      refine ev_W.fn rfl rfl ?_
      exact this
theorem sp_ac_l3 {ma : Nat} {c0 : Int32} : ∀ (n i n1 n2 : Nat) (G : hb_G) (s : hb_S) (h : ev_H), i + n = 3 → hb_R z sz dyn mu G n1 n2 s h → (∀ j, j < 3 → ba 17 s j) → (∀ (G' : hb_G) (h' : ev_H) (y : Option Value), hb_R z sz dyn mu G' (n1 + 12 * n) (n2 + 279 * n) (M_puF n i s) h' → hb_E dyn G h G' h' → Q (some (.int 1), h')) → ev_W (mk_B_accept z) (93, [some (.ref (sz + 24)), some (.int c0), some (.ref ma), some (.int (nI i))], [], h) Q := by
  intro n
  induction n with
  | zero =>
    intro i n1 n2 G s h hi R hb k
    refine ev_W.fn rfl rfl ?_
    refine ev_W.fn rfl rfl ?_
    refine ev_W.brT rfl rfl (nI_le (a := 3) (b := i) (by omega) (by omega)) ?_
    refine ev_W.fn rfl rfl ?_
    refine ev_W.zret rfl (Or.inr rfl) ?_
    exact k _ _ none R hb_E.rf
  | succ n ih =>
    intro i n1 n2 G s h hin R hb k
    have hi : i < 3 := by omega
    have hbi := hb i hi
    have hPl := R.plen (l := 3 + i) (by omega)
    rw [M_puF] at k
    refine ev_W.fn rfl rfl ?_
    refine ev_W.fn rfl rfl ?_
    refine ev_W.brF rfl rfl (nI_ge (a := i) (b := 3) (by omega) (by decide)) ?_
    refine ev_W.fn rfl rfl ?_
    refine ev_W.fn rfl rfl ?_
    refine ev_W.clR rfl rfl rfl rfl rfl R.o5 ?_
    refine sp_B_pump R hi hbi.2.2.2.1 hbi.2.2.1 (fun G1 u1 R1 E1 => ?_)
    have := ih (i + 1) _ _ _ _ _ (by omega) R1 (fun j hj => M_pump_ba hi hj hbi.2.2.2.1 hPl (hb j hj)) (fun G' h' y R' E' => k G' h' y (R'.up (by omega) (by omega)) (E1.tr E'))
    rw [← nI_1] at this
    refine ev_W.fn rfl rfl ?_
    refine ev_W.fn rfl rfl ?_
    exact this
theorem sp_B_accept {n1 n2 : Nat} {G : hb_G} {s : hb_S} {h : ev_H} {ma : Nat} {m : hb_Ms} (R : hb_R z sz dyn mu G n1 n2 s h) (hc : c < 3) (hm : ms_at dyn G h ma m) (hb : ∀ j, j < 3 → ba 17 s j) (k : ∀ (G' : hb_G) (h' : ev_H), hb_R z sz dyn mu G' (n1 + 73) (n2 + 1525) (M_acc s c m).1 h' → hb_E dyn G h G' h' → Q (some (.int (zb (M_acc s c m).2)), h')) : ev_M (mf_B_accept z) [.ref (sz + 24), .int (nI c), .ref ma] h Q := by
  have kf : M_rmF s c m 3 0 = false → Q (some (.int 0), h) := fun hr => by
    have := k G h
    unfold M_acc at this
    rw [hr] at this
    exact this (R.up (by omega) (by omega)) hb_E.rf
  refine ev_M.go rfl rfl ?_
  refine ev_W.fn rfl rfl ?_
  refine ev_W.fn rfl rfl ?_
  refine sp_ac_l1 R hc hm 3 0 rfl kf (fun hr y => ?_)
  have k1 : ∀ (G' : hb_G) (h' : ev_H), hb_R z sz dyn mu G' (n1 + 73) (n2 + 1525) (M_puF 3 0 (M_ret (M_spF c m 3 0 s) m)) h' → hb_E dyn G h G' h' → Q (some (.int 1), h') := by
    unfold M_acc at k
    rw [hr] at k
    exact k
  have hba := fun j hj => M_mid_ba (D := 17) (c := c) (by decide) hj hr (hb j hj)
  have l3 : ∀ (G2 : hb_G) (h2 : ev_H) (y : Option Value), hb_R z sz dyn mu G2 (n1 + 37) (n2 + 688) (M_ret (M_spF c m 3 0 s) m) h2 → hb_E dyn G h G2 h2 → ev_W (mk_B_accept z) (91, [some (.ref (sz + 24)), some (.int (nI c)), some (.ref ma), y], [], h2) Q := by
    intro G2 h2 y R2 E2
    refine ev_W.fn rfl rfl ?_
    refine ev_W.fn rfl rfl ?_
    exact sp_ac_l3 3 0 _ _ _ _ _ rfl R2 hba (fun G' h' y R' E' => k1 G' h' (R'.up (by omega) (by omega)) (E2.tr E'))
  refine ev_W.fn rfl rfl ?_
  refine ev_W.fn rfl rfl ?_
  refine sp_ac_l2 hc 3 0 _ _ _ _ _ rfl R hm (fun j _ hj => ⟨(hb j hj).1, by have := (hb j hj).2.1; omega⟩) (fun G2 h2 y R2 E2 hm2 => ?_)
  obtain ⟨t, v, mq, rt⟩ := m
  refine ev_W.fn rfl rfl ?_
  refine ev_W.obj rfl hm2.1 rfl ?_
  refine ev_W.br rfl rfl (fun h1 => ?_) (fun h1 => ?_)
  · exact l3 _ _ _ (by unfold M_ret; rw [if_neg (fun q => by have := zb_n0.mp h1; rw [this] at q; cases q)]; exact R2.up (by omega) (by omega)) (E2.tr hb_E.rf)
  · refine ev_W.fn rfl rfl ?_
    refine ev_W.fn rfl rfl ?_
    refine ev_W.clR rfl rfl rfl rfl rfl R2.o5 ?_
    refine sp_B_retain R2 hm2 (fun G1 u1 R1 E1 => ?_)
    exact l3 _ _ _ (by unfold M_ret; rw [if_pos (zb_1.mp h1)]; exact R1.up (by omega) (by omega)) (E2.tr E1)
end AC2
