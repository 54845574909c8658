/-! Closing, breaking down, ticks (laid by wip/whole/p77.py). -/
-- s' differs from s in client c's things alone
def fr (c : Nat) (s s' : hb_S) : Prop := (∀ k j, j ≠ c → sI s' k j = sI s k j) ∧ (∀ k j, j ≠ c → sJ s' k j = sJ s k j) ∧ (∀ j, j ≠ c → sX s' j = sX s j) ∧ (∀ l, l ≠ 2 * c → l ≠ 2 * c + 1 → sN s' l = sN s l) ∧ (∀ l, l ≠ c → l ≠ 3 + c → sP s' l = sP s l) ∧ (∀ l, l ≠ c → sB s' l = sB s l) ∧ (∀ l, l ≠ c → sM s' l = sM s l)
theorem fr.rf {c : Nat} {s : hb_S} : fr c s s := ⟨fun _ _ _ => rfl, fun _ _ _ => rfl, fun _ _ => rfl, fun _ _ _ => rfl, fun _ _ _ => rfl, fun _ _ => rfl, fun _ _ => rfl⟩
theorem fr.tr {c : Nat} {s s' s2 : hb_S} (a : fr c s s') (b : fr c s' s2) : fr c s s2 := by
  obtain ⟨a1, a2, a3, a4, a5, a6, a7⟩ := a
  obtain ⟨b1, b2, b3, b4, b5, b6, b7⟩ := b
  exact ⟨fun k j h => (b1 k j h).trans (a1 k j h), fun k j h => (b2 k j h).trans (a2 k j h), fun j h => (b3 j h).trans (a3 j h), fun l h h' => (b4 l h h').trans (a4 l h h'), fun l h h' => (b5 l h h').trans (a5 l h h'), fun l h => (b6 l h).trans (a6 l h), fun l h => (b7 l h).trans (a7 l h)⟩
theorem fr_I {c : Nat} {s : hb_S} (k : Nat) (v : Int32) : fr c s (tI s k c v) := ⟨fun k' j h => by simp [st_a, h], fun _ _ _ => rfl, fun _ _ => rfl, fun _ _ _ => rfl, fun _ _ _ => rfl, fun _ _ => rfl, fun _ _ => rfl⟩
theorem fr_J {c : Nat} {s : hb_S} (k : Nat) (v : Int64) : fr c s (tJ s k c v) := ⟨fun _ _ _ => rfl, fun k' j h => by simp [st_a, h], fun _ _ => rfl, fun _ _ _ => rfl, fun _ _ _ => rfl, fun _ _ => rfl, fun _ _ => rfl⟩
theorem fr_X {c : Nat} {s : hb_S} (v : Nat → Int32) : fr c s (tX s c v) := ⟨fun _ _ _ => rfl, fun _ _ _ => rfl, fun j h => by simp [st_a, h], fun _ _ _ => rfl, fun _ _ _ => rfl, fun _ _ => rfl, fun _ _ => rfl⟩
theorem fr_N0 {c : Nat} {s : hb_S} (v : List hb_Pk) : fr c s (tN s (2 * c) v) := ⟨fun _ _ _ => rfl, fun _ _ _ => rfl, fun _ _ => rfl, fun l h h' => by simp [st_a, h], fun _ _ _ => rfl, fun _ _ => rfl, fun _ _ => rfl⟩
theorem fr_N1 {c : Nat} {s : hb_S} (v : List hb_Pk) : fr c s (tN s (2 * c + 1) v) := ⟨fun _ _ _ => rfl, fun _ _ _ => rfl, fun _ _ => rfl, fun l h h' => by simp [st_a, h'], fun _ _ _ => rfl, fun _ _ => rfl, fun _ _ => rfl⟩
theorem fr_P0 {c : Nat} {s : hb_S} (v : List hb_Pa) : fr c s (tP s c v) := ⟨fun _ _ _ => rfl, fun _ _ _ => rfl, fun _ _ => rfl, fun _ _ _ => rfl, fun l h h' => by simp [st_a, h], fun _ _ => rfl, fun _ _ => rfl⟩
theorem fr_P3 {c : Nat} {s : hb_S} (v : List hb_Pa) : fr c s (tP s (3 + c) v) := ⟨fun _ _ _ => rfl, fun _ _ _ => rfl, fun _ _ => rfl, fun _ _ _ => rfl, fun l h h' => by simp [st_a, h'], fun _ _ => rfl, fun _ _ => rfl⟩
theorem fr_B {c : Nat} {s : hb_S} (v : List hb_Sb) : fr c s (tB s c v) := ⟨fun _ _ _ => rfl, fun _ _ _ => rfl, fun _ _ => rfl, fun _ _ _ => rfl, fun _ _ _ => rfl, fun l h => by simp [st_a, h], fun _ _ => rfl⟩
theorem fr_M {c : Nat} {s : hb_S} (v : List hb_Ms) : fr c s (tM s c v) := ⟨fun _ _ _ => rfl, fun _ _ _ => rfl, fun _ _ => rfl, fun _ _ _ => rfl, fun _ _ _ => rfl, fun _ _ => rfl, fun l h => by simp [st_a, h]⟩
theorem fr_close (s : hb_S) (c : Nat) : fr c s (M_close s c) := (fr_N0 []).tr ((fr_N1 []).tr ((fr_I 0 0).tr (fr_I 1 0)))
theorem fr_end (s : hb_S) (c : Nat) : fr c s (M_end s c) := (fr_B []).tr ((fr_M []).tr ((fr_P3 []).tr ((fr_I 13 0).tr (fr_I 10 0))))
theorem fr_outlive (s : hb_S) (c : Nat) : fr c s (M_outlive s c) := by
  unfold M_outlive; split
  · exact (fr_I 12 _).tr (fr_end _ c)
  · exact fr_I 12 _
theorem fr_cn (s : hb_S) (c : Nat) : fr c s (M_cn s c) := by
  unfold M_cn; split
  · exact (fr_I 5 0).tr (fr_outlive _ c)
  · exact (fr_I 5 0).tr ((fr_close _ c).tr (fr_outlive _ c))
theorem fr_bd1 (s : hb_S) (c : Nat) : fr c s (M_bd1 s c) := (fr_I 5 0).tr ((fr_close _ c).tr (fr_outlive _ c))
theorem fr_cd (s : hb_S) (c : Nat) : fr c s (M_cd s c).1 := by
  unfold M_cd; split
  · exact fr.rf
  · split
    · exact fr_I 12 _
    · exact (fr_I 12 _).tr (fr_end _ c)
theorem fr_gs (s : hb_S) (c : Nat) : fr c s (M_gs s c).1 := by
  unfold M_gs; split
  · exact fr.rf
  · exact fr_I 7 _
-- a line that is not attached is empty; what is attached is open
def iA (s : hb_S) (j : Nat) : Prop := (sI s 1 j = 0 → sN s (2 * j + 1) = []) ∧ (sI s 5 j = 0 → sI s 1 j = 0)
theorem fr.ba {D c j : Nat} {s s' : hb_S} (f : fr c s s') (hj : j < 3) (hc : c < 3) (e : j ≠ c) (h : ba D s j) : ba D s' j := by
  obtain ⟨a1, a2, a3, a4, a5, a6, a7⟩ := f
  show (sB s' j).length ≤ 4 ∧ (sM s' j).length + (sP s' (3 + j)).length ≤ 6 ∧ (sN s' (2 * j + 1)).length ≤ D + (sP s' (3 + j)).length ∧ sI s' 6 j ≤ 3 ∧ (sP s' (3 + j)).length ≤ 3
  rw [a1 _ _ e, a4 _ (by omega) (by omega), a5 _ (by omega) (by omega), a6 _ e, a7 _ e]; exact h
theorem fr.iA {c j : Nat} {s s' : hb_S} (f : fr c s s') (e : j ≠ c) (h : iA s j) : iA s' j := by
  obtain ⟨a1, a2, a3, a4, a5, a6, a7⟩ := f
  show (sI s' 1 j = 0 → sN s' (2 * j + 1) = []) ∧ (sI s' 5 j = 0 → sI s' 1 j = 0)
  rw [a1 _ _ e, a1 _ _ e, a4 _ (by omega) (by omega)]; exact h
theorem M_end_at (s : hb_S) (c : Nat) : sB (M_end s c) c = [] ∧ sM (M_end s c) c = [] ∧ sP (M_end s c) (3 + c) = [] ∧ sN (M_end s c) = sN s ∧ sI (M_end s c) 6 c = sI s 6 c ∧ sI (M_end s c) 1 c = sI s 1 c ∧ sI (M_end s c) 5 c = sI s 5 c := by
  unfold M_end
  simp [st_a]
theorem M_out_ba {D : Nat} {s : hb_S} {c : Nat} (h : ba D s c) (hN : sN s (2 * c + 1) = []) : ba D (M_outlive s c) c ∧ sN (M_outlive s c) = sN s ∧ sI (M_outlive s c) 1 c = sI s 1 c ∧ sI (M_outlive s c) 5 c = sI s 5 c := by
  unfold M_outlive
  split
  · obtain ⟨e1, e2, e3, e4, e5, e6, e7⟩ := M_end_at (tI s 12 c (sI s 11 c)) c
    refine ⟨?_, e4, e6, e7⟩
    unfold ba
    rw [e1, e2, e3, e4, e5]
    have e8 : sN (tI s 12 c (sI s 11 c)) (2 * c + 1) = [] := hN
    rw [e8]
    exact ⟨by simp, by simp, by simp, h.2.2.2.1, by simp⟩
  · exact ⟨h, rfl, rfl, rfl⟩
theorem M_close_at (s : hb_S) (c : Nat) : sN (M_close s c) (2 * c + 1) = [] ∧ sN (M_close s c) (2 * c) = [] ∧ sI (M_close s c) 1 c = 0 ∧ sB (M_close s c) = sB s ∧ sM (M_close s c) = sM s ∧ sP (M_close s c) = sP s ∧ sI (M_close s c) 6 c = sI s 6 c ∧ sI (M_close s c) 5 c = sI s 5 c := by
  unfold M_close
  simp [st_a]
theorem M_close_ba {D : Nat} {s : hb_S} {c : Nat} (h : ba D s c) : ba D (M_close s c) c := by
  obtain ⟨e1, e2, e3, e4, e5, e6, e7, e8⟩ := M_close_at s c
  unfold ba at *
  rw [e1, e4, e5, e6, e7]
  exact ⟨h.1, h.2.1, by simp, h.2.2.2⟩
theorem M_bd1_at {D : Nat} {s : hb_S} {c : Nat} (h : ba D s c) : ba D (M_bd1 s c) c ∧ iA (M_bd1 s c) c := by
  have h1 : ba D (tI s 5 c 0) c := h
  obtain ⟨e1, e2, e3, -⟩ := M_close_at (tI s 5 c 0) c
  obtain ⟨a1, a2, a3, a4⟩ := M_out_ba (M_close_ba h1) e1
  refine ⟨a1, fun _ => ?_, fun _ => ?_⟩
  · show sN (M_outlive _ c) _ = []
    rw [a2]; exact e1
  · exact a3.trans e3
theorem M_cn_at {D : Nat} {s : hb_S} {c : Nat} (h : ba D s c) (hA : iA s c) : ba D (M_cn s c) c ∧ iA (M_cn s c) c := by
  unfold M_cn
  split
  · rename_i h0
    obtain ⟨a1, a2, a3, a4⟩ := M_out_ba (s := tI s 5 c 0) h (hA.1 h0)
    refine ⟨a1, fun _ => ?_, fun _ => a3.trans h0⟩
    rw [a2]; exact hA.1 h0
  · exact M_bd1_at h
theorem M_cn_all {D : Nat} {s : hb_S} {c : Nat} (hc : c < 3) (h : ∀ j, j < 3 → ba D s j ∧ iA s j) : ∀ j, j < 3 → ba D (M_cn s c) j ∧ iA (M_cn s c) j := by
  intro j hj
  by_cases e : j = c
  · subst e; exact M_cn_at (h j hj).1 (h j hj).2
  · exact ⟨(fr_cn s c).ba hj hc e (h j hj).1, (fr_cn s c).iA e (h j hj).2⟩
theorem M_bd1_all {D : Nat} {s : hb_S} {c : Nat} (hc : c < 3) (h : ∀ j, j < 3 → ba D s j ∧ iA s j) : ∀ j, j < 3 → ba D (M_bd1 s c) j ∧ iA (M_bd1 s c) j := by
  intro j hj
  by_cases e : j = c
  · subst e; exact M_bd1_at (h j hj).1
  · exact ⟨(fr_bd1 s c).ba hj hc e (h j hj).1, (fr_bd1 s c).iA e (h j hj).2⟩
-- nothing is sent over a line that is not attached
theorem M_send_na {s : hb_S} {c : Nat} {p : hb_Pk} (h : sI s 1 c = 0) : M_send s c p = s := by rw [M_send, if_pos h]
theorem M_sp1_na {s : hb_S} {c : Nat} {x : hb_Sb} {m : hb_Ms} {own : Bool} (h : sI s 1 c = 0) : sN (M_sp1 s c x m own) = sN s := by
  unfold M_sp1; split
  · rw [M_send_na h]
  · split <;> rfl
theorem M_spr_na : ∀ {B : List hb_Sb} {s : hb_S} {c : Nat} {m : hb_Ms} {own : Bool}, sI s 1 c = 0 → sN (M_spr B s c m own) = sN s := by
  intro B
  induction B with
  | nil => intro s c m own _; rfl
  | cons x B ih =>
    intro s c m own h
    rw [M_spr, ih (by rw [(M_sp1_ok s c x m own).1]; exact h), M_sp1_na h]
theorem M_pump_na {s : hb_S} {c : Nat} (h : sI s 1 c = 0) (h40 : (sP s (3 + c)).length ≤ 40) : M_pump s c = s := by
  unfold M_pump M_win
  rw [if_pos h]
  cases (sM s c).length with
  | zero => rfl
  | succ n => rw [M_pm, if_pos (nI_pos' (by omega))]
theorem M_spF_na {c : Nat} {m : hb_Ms} {j : Nat} : ∀ (n i : Nat) (s : hb_S), sI s 1 j = 0 → sN (M_spF c m n i s) (2 * j + 1) = sN s (2 * j + 1) := by
  intro n
  induction n with
  | zero => intro i s _; rfl
  | succ n ih =>
    intro i s h
    obtain ⟨a1, a2, a3, a4, a5, a6, a7, a8, a9⟩ := M_spr_ok (sB s i) s i m (decide (i = c))
    rw [M_spF, ih (i + 1) _ (by rw [a1]; exact h)]
    by_cases e : j = i
    · subst e; rw [M_spr_na h]
    · exact a6 _ (by omega)
theorem M_puF_na {j : Nat} (hj : j < 3) : ∀ (n i : Nat) (s : hb_S), i + n = 3 → (∀ k, k < 3 → ba 20 s k) → (sI s 1 j = 0 → sN (M_puF n i s) (2 * j + 1) = sN s (2 * j + 1)) ∧ sI (M_puF n i s) = sI s := by
  intro n
  induction n with
  | zero => intro i s _ _; exact ⟨fun _ => rfl, rfl⟩
  | succ n ih =>
    intro i s hi hs
    have hii := hs i (by omega)
    have h40 : (sP s (3 + i)).length ≤ 40 := by have := hii.2.2.2.2; omega
    obtain ⟨a1, a2, a3, a4, a5, a6, a7, a8, a9, a10⟩ := M_pump_ok s i hii.2.2.2.1 h40
    obtain ⟨b1, b2⟩ := ih (i + 1) (M_pump s i) (by omega) (fun k hk => M_pump_ba (by omega) hk hii.2.2.2.1 h40 (hs k hk))
    rw [M_puF]
    refine ⟨fun h => ?_, b2.trans a1⟩
    rw [b1 (by rw [a1]; exact h)]
    by_cases e : j = i
    · subst e; rw [M_pump_na h h40]
    · exact a5 _ (by omega)
theorem M_acc_I {s : hb_S} {c : Nat} {m : hb_Ms} (hs : ∀ j, j < 3 → ba 20 s j) : sI (M_acc s c m).1 = sI s := by
  unfold M_acc
  split
  · rename_i hr
    have := (M_puF_na (j := 0) (by decide) 3 0 (M_ret (M_spF c m 3 0 s) m) rfl (fun k hk => M_mid_ba (by decide) hk hr (hs k hk))).2
    exact this.trans ((M_retain_ok _ _).1.trans (M_spF_ok c m 3 0 s).1)
  · rfl
theorem M_acc_iA {s : hb_S} {c : Nat} {m : hb_Ms} {j : Nat} (hs : ∀ j, j < 3 → ba 20 s j) (hj : j < 3) (h : iA s j) : iA (M_acc s c m).1 j := by
  have e := M_acc_I (c := c) (m := m) hs
  refine ⟨fun h1 => ?_, fun h5 => ?_⟩
  · rw [e] at h1
    have h0 := h.1 h1
    unfold M_acc
    split
    · rename_i hr
      have := (M_puF_na hj 3 0 (M_ret (M_spF c m 3 0 s) m) rfl (fun k hk => M_mid_ba (by decide) hk hr (hs k hk))).1 (by rw [(M_retain_ok _ _).1, (M_spF_ok c m 3 0 s).1]; exact h1)
      rw [this, (M_retain_ok _ _).2.2.2.2.2.1, M_spF_na 3 0 s h1]
      exact h0
    · exact h0
  · rw [e] at h5 ⊢; exact h.2 h5
theorem ba.mono {D D' : Nat} {s : hb_S} {j : Nat} (h : ba D s j) (hD : D ≤ D') : ba D' s j := by
  unfold ba at *
  exact ⟨h.1, h.2.1, by omega, h.2.2.2⟩
theorem M_acc_all {D : Nat} (hD : 12 ≤ D) (hD2 : D ≤ 20) {s : hb_S} {c : Nat} {m : hb_Ms} (h : ∀ j, j < 3 → ba D s j ∧ iA s j) : ∀ j, j < 3 → ba D (M_acc s c m).1 j ∧ iA (M_acc s c m).1 j := by
  have hs : ∀ j, j < 3 → ba 20 s j := fun j hj => (h j hj).1.mono hD2
  exact fun j hj => ⟨M_acc_ba hD hs hj (h j hj).1, M_acc_iA hs hj (h j hj).2⟩
theorem M_ca_all {D : Nat} (hD : 12 ≤ D) (hD2 : D ≤ 20) {s : hb_S} {c : Nat} (hc : c < 3) (h : ∀ j, j < 3 → ba D s j ∧ iA s j) : ∀ j, j < 3 → ba D (M_ca s c) j ∧ iA (M_ca s c) j := by
  unfold M_ca
  split
  · exact M_cn_all hc h
  · exact M_acc_all hD hD2 (M_cn_all hc h)
theorem M_tk1_all {D : Nat} (hD : 12 ≤ D) (hD2 : D ≤ 20) {s : hb_S} {c : Nat} (hc : c < 3) (h : ∀ j, j < 3 → ba D s j ∧ iA s j) : ∀ j, j < 3 → ba D (M_tk1 s c).1 j ∧ iA (M_tk1 s c).1 j := by
  have hg : ∀ j, j < 3 → ba D (M_gs s c).1 j ∧ iA (M_gs s c).1 j := by
    unfold M_gs; split
    · exact h
    · exact fun j hj => h j hj
  unfold M_tk1
  split
  · rename_i h5
    intro j hj
    by_cases e : j = c
    · subst e
      have hh := h j hj
      unfold M_cd
      split
      · exact hh
      · split
        · exact hh
        · obtain ⟨e1, e2, e3, e4, e5, e6, e7⟩ := M_end_at (tI s 12 j (sI s 12 j - 1)) j
          have h1 : sI s 1 j = 0 := hh.2.2 h5
          have hN : sN (tI s 12 j (sI s 12 j - 1)) (2 * j + 1) = [] := hh.2.1 h1
          refine ⟨?_, fun _ => ?_, fun _ => ?_⟩
          · unfold ba
            dsimp only
            rw [e1, e2, e3, e4, e5, hN]
            exact ⟨by simp, by simp, by simp, hh.1.2.2.2.1, by simp⟩
          · dsimp only; rw [e4, hN]
          · exact e6.trans h1
    · exact ⟨(fr_cd s c).ba hj hc e (h j hj).1, (fr_cd s c).iA e (h j hj).2⟩
  · split
    · exact M_ca_all hD hD2 hc hg
    · exact hg
section CL
variable {z : Nat × Nat} {sz dyn : Nat} {mu : Nat → Option ev_E} {c : Nat} {Q : ev_O → Prop}
theorem sp_B_closeNormally {n1 n2 : Nat} {G : hb_G} {s : hb_S} {h : ev_H} (R : hb_R z sz dyn mu G n1 n2 s h) (hc : c < 3) (k : ∀ (G' : hb_G) (h' : ev_H), hb_R z sz dyn mu G' n1 n2 (M_cn s c) h' → hb_E dyn G h G' h' → Q (none, h')) : ev_M (mf_B_closeNormally z) [.ref (sz + 24), .int (nI c)] h Q := by
  unfold M_cn at k
  refine ev_M.go rfl rfl ?_
  refine ev_W.fn rfl rfl ?_
  refine ev_W.obj rfl R.o5 rfl ?_
  refine ev_W.fn rfl rfl ?_
  refine ev_W.nk R hc rfl ?_
  refine ev_W.fn rfl rfl ?_
  refine ev_W.w5 R hc (Or.inl rfl) rfl (fun u1 R1 E1 => ?_)
  refine ev_W.fn rfl rfl ?_
  refine ev_W.obj rfl R1.o5 rfl ?_
  refine ev_W.fn rfl rfl ?_
  refine ev_W.lk R1 hc rfl ?_
  refine ev_W.obj rfl (R1.o1 hc) rfl ?_
  refine ev_W.br rfl rfl (fun h1 => ?_) (fun h1 => ?_)
  · have h1 : sI s 1 c = 0 := h1
    rw [if_pos h1] at k
    refine ev_W.fn rfl rfl ?_
    refine ev_W.obj rfl R1.o5 rfl ?_
    refine ev_W.fn rfl rfl ?_
    refine ev_W.sk R1 hc rfl ?_
    refine ev_W.clR rfl rfl rfl rfl rfl (R1.o7 hc) ?_
    refine sp_S_outlive R1 hc (fun G2 u2 R2 E2 => ?_)
    refine ev_W.ret rfl rfl ?_
    exact k _ _ R2 (E1.tr E2)
  · have h1 : ¬ sI s 1 c = 0 := h1
    rw [if_neg h1] at k
    refine ev_W.fn rfl rfl ?_
    refine ev_W.obj rfl R1.o5 rfl ?_
    refine ev_W.fn rfl rfl ?_
    refine ev_W.lk R1 hc rfl ?_
    refine ev_W.clR rfl rfl rfl rfl rfl (R1.o1 hc) ?_
    refine sp_L_close R1 hc (fun G3 u3 R3 E3 => ?_)
    refine ev_W.fn rfl rfl ?_
    refine ev_W.obj rfl R3.o5 rfl ?_
    refine ev_W.fn rfl rfl ?_
    refine ev_W.sk R3 hc rfl ?_
    refine ev_W.clR rfl rfl rfl rfl rfl (R3.o7 hc) ?_
    refine sp_S_outlive R3 hc (fun G4 u4 R4 E4 => ?_)
    refine ev_W.ret rfl rfl ?_
    exact k _ _ R4 (E1.tr (E3.tr E4))
theorem sp_B_closeAbruptly {n1 n2 : Nat} {G : hb_G} {s : hb_S} {h : ev_H} (R : hb_R z sz dyn mu G n1 n2 s h) (hc : c < 3) (hb : ∀ j, j < 3 → ba 17 s j ∧ iA s j) (k : ∀ (G' : hb_G) (h' : ev_H), hb_R z sz dyn mu G' (n1 + 74) (n2 + 1529) (M_ca s c) h' → hb_E dyn G h G' h' → Q (none, h')) : ev_M (mf_B_closeAbruptly z) [.ref (sz + 24), .int (nI c)] h Q := by
  have hb2 := M_cn_all hc hb
  unfold M_ca at k
  refine ev_M.go rfl rfl ?_
  refine ev_W.fn rfl rfl ?_
  refine ev_W.fn rfl rfl ?_
  refine ev_W.clR rfl rfl rfl rfl rfl R.o5 ?_
  refine sp_B_closeNormally R hc (fun G1 u1 R1 E1 => ?_)
  refine ev_W.fn rfl rfl ?_
  refine ev_W.obj rfl R1.o5 rfl ?_
  refine ev_W.fn rfl rfl ?_
  refine ev_W.nk R1 hc rfl ?_
  refine ev_W.clR rfl rfl rfl rfl rfl (R1.o6 hc) ?_
  refine sp_N_hasWill R1 hc ?_
  refine ev_W.br rfl rfl (fun h1 => ?_) (fun h1 => ?_)
  · have h1 : sJ (M_cn s c) 1 c = 0 := Decidable.not_not.mp (of_decide_eq_false (zb_n0.mp h1))
    rw [if_pos h1] at k
    refine ev_W.ret rfl rfl ?_
    exact k _ _ (R1.up (by omega) (by omega)) E1
  · have h1 : ¬ sJ (M_cn s c) 1 c = 0 := of_decide_eq_true (zb_1.mp h1)
    rw [if_neg h1] at k
    refine ev_W.fn rfl rfl ?_
    refine ev_W.fn rfl rfl ?_
    refine ev_W.fn rfl rfl ?_
    refine ev_W.obj rfl R1.o5 rfl ?_
    refine ev_W.fn rfl rfl ?_
    refine ev_W.nk R1 hc rfl ?_
    refine ev_W.clR rfl rfl rfl rfl rfl (R1.o6 hc) ?_
    refine sp_N_willMessage R1 hc (fun G2 u2 a2 R2 E2 hp2 => ?_)
    refine ev_W.clR rfl rfl rfl rfl rfl R2.o5 ?_
    refine sp_B_accept R2 hc hp2 (fun j hj => (hb2 j hj).1) (fun G3 u3 R3 E3 => ?_)
    have hp2 := E3.ms R2 hp2
    refine ev_W.fn rfl rfl ?_
    refine ev_W.ret rfl rfl ?_
    exact k _ _ (R3.up (by omega) (by omega)) (E1.tr (E2.tr E3))
theorem sp_bd_1 {n1 n2 : Nat} {G : hb_G} {s : hb_S} {h : ev_H} {i : Nat} (R : hb_R z sz dyn mu G n1 n2 s h) (hi : i < 3) (k : ∀ (G' : hb_G) (h' : ev_H), hb_R z sz dyn mu G' n1 n2 (M_bd1 s i) h' → hb_E dyn G h G' h' → ev_W (mk_B_breakDown z) (2, [some (.ref (sz + 24)), some (.int (nI (i + 1)))], [], h') Q) : ev_W (mk_B_breakDown z) (2, [some (.ref (sz + 24)), some (.int (nI i))], [], h) Q := by
  rw [← nI_1] at k
  refine ev_W.fn rfl rfl ?_
  refine ev_W.fn rfl rfl ?_
  refine ev_W.brF rfl rfl (nI_ge (a := i) (b := 3) (by omega) (by decide)) ?_
  refine ev_W.fn rfl rfl ?_
  refine ev_W.obj rfl R.o5 rfl ?_
  refine ev_W.fn rfl rfl ?_
  refine ev_W.nk R hi rfl ?_
  refine ev_W.fn rfl rfl ?_
  refine ev_W.w5 R hi (Or.inl rfl) rfl (fun u1 R1 E1 => ?_)
  refine ev_W.fn rfl rfl ?_
  refine ev_W.obj rfl R1.o5 rfl ?_
  refine ev_W.fn rfl rfl ?_
  refine ev_W.lk R1 hi rfl ?_
  refine ev_W.clR rfl rfl rfl rfl rfl (R1.o1 hi) ?_
  refine sp_L_close R1 hi (fun G2 u2 R2 E2 => ?_)
  refine ev_W.fn rfl rfl ?_
  refine ev_W.obj rfl R2.o5 rfl ?_
  refine ev_W.fn rfl rfl ?_
  refine ev_W.sk R2 hi rfl ?_
  refine ev_W.clR rfl rfl rfl rfl rfl (R2.o7 hi) ?_
  refine sp_S_outlive R2 hi (fun G3 u3 R3 E3 => ?_)
  refine ev_W.fn rfl rfl ?_
  refine ev_W.fn rfl rfl ?_
  exact k _ _ R3 (E1.tr (E2.tr E3))
theorem sp_B_breakDown {n1 n2 : Nat} {G : hb_G} {s : hb_S} {h : ev_H} (R : hb_R z sz dyn mu G n1 n2 s h) (k : ∀ (G' : hb_G) (h' : ev_H), hb_R z sz dyn mu G' n1 n2 (M_bd s) h' → hb_E dyn G h G' h' → Q (none, h')) : ev_M (mf_B_breakDown z) [.ref (sz + 24)] h Q := by
  refine ev_M.go rfl rfl ?_
  refine ev_W.fn rfl rfl ?_
  refine ev_W.fn rfl rfl ?_
  refine sp_bd_1 (i := 0) R (by decide) (fun G1 h1 R1 E1 => ?_)
  refine sp_bd_1 (i := 1) R1 (by decide) (fun G2 h2 R2 E2 => ?_)
  refine sp_bd_1 (i := 2) R2 (by decide) (fun G3 h3 R3 E3 => ?_)
  refine ev_W.fn rfl rfl ?_
  refine ev_W.fn rfl rfl ?_
  refine ev_W.fn rfl rfl ?_
  refine ev_W.ret rfl rfl ?_
  exact k _ _ R3 (E1.tr (E2.tr E3))
theorem sp_tk_loop : ∀ (m i n n1 n2 : Nat) (G : hb_G) (s : hb_S) (h : ev_H) (y : Option Value), i + m = 3 → n ≤ i → hb_R z sz dyn mu G n1 n2 s h → (∀ j, j < 3 → ba 17 s j ∧ iA s j) → (∀ (G' : hb_G) (h' : ev_H), hb_R z sz dyn mu G' (n1 + 74 * m) (n2 + 1529 * m) (M_tkF m i s n).1 h' → hb_E dyn G h G' h' → Q (some (.int (nI (M_tkF m i s n).2)), h')) → ev_W (mk_B_passTick z) (4, [some (.ref (sz + 24)), some (.int (nI n)), some (.int (nI i)), y], [], h) Q := by
  intro m
  induction m with
  | zero =>
    intro i n n1 n2 G s h y hi hn R hb k
    refine ev_W.fn rfl rfl ?_
    refine ev_W.fn rfl rfl ?_
    refine ev_W.brT rfl rfl (nI_le (a := 3) (b := i) (by omega) (by omega)) ?_
    refine ev_W.fn rfl rfl ?_
    refine ev_W.ret rfl rfl ?_
    exact k _ _ R hb_E.rf
  | succ m ih =>
    intro i n n1 n2 G s h y hin hn R hb k
    have hi : i < 3 := by omega
    rw [M_tkF] at k
    have next : ∀ (G2 : hb_G) (h2 : ev_H) (n' : Nat) (y : Option Value), n' ≤ i + 1 → hb_R z sz dyn mu G2 (n1 + 74) (n2 + 1529) (M_tk1 s i).1 h2 → hb_E dyn G h G2 h2 → (if (M_tk1 s i).2 = true then n + 1 else n) = n' → ev_W (mk_B_passTick z) (65, [some (.ref (sz + 24)), some (.int (nI n')), some (.int (nI i)), y], [], h2) Q := by
      intro G2 h2 n' y hn' R2 E2 he
      rw [he] at k
      refine ev_W.fn rfl rfl ?_
      refine ev_W.fn rfl rfl ?_
      have := ih (i + 1) n' _ _ G2 _ h2 y (by omega) hn' R2 (M_tk1_all (by decide) (by decide) hi hb) (fun G' h' R' E' => k G' h' (R'.up (by omega) (by omega)) (E2.tr E'))
      rw [← nI_1 i] at this
      exact this
    have hg : ∀ j, j < 3 → ba 17 (M_gs s i).1 j ∧ iA (M_gs s i).1 j := by
      unfold M_gs; split
      · exact hb
      · exact fun j hj => hb j hj
    refine ev_W.fn rfl rfl ?_
    refine ev_W.fn rfl rfl ?_
    refine ev_W.brF rfl rfl (nI_ge (a := i) (b := 3) (by omega) (by decide)) ?_
    refine ev_W.fn rfl rfl ?_
    refine ev_W.obj rfl R.o5 rfl ?_
    refine ev_W.fn rfl rfl ?_
    refine ev_W.nk R hi rfl ?_
    refine ev_W.obj rfl (R.o6 hi) rfl ?_
    refine ev_W.fn rfl rfl ?_
    refine ev_W.fn rfl rfl ?_
    refine ev_W.br rfl rfl (fun h1 => ?_) (fun h1 => ?_)
    · refine ev_W.fn rfl rfl ?_
      refine ev_W.brF rfl rfl (fun q => q h1) ?_
      refine ev_W.fn rfl rfl ?_
      refine ev_W.obj rfl R.o5 rfl ?_
      refine ev_W.fn rfl rfl ?_
      refine ev_W.sk R hi rfl ?_
      refine ev_W.clR rfl rfl rfl rfl rfl (R.o7 hi) ?_
      refine sp_S_countDown R hi (fun G1 u1 R1 E1 => ?_)
      refine ev_W.br rfl rfl (fun h2 => ?_) (fun h2 => ?_)
      · have h2 := zb_n0.mp h2
        exact next _ _ n _ (by omega) (by unfold M_tk1; rw [if_pos h1]; exact R1.up (by omega) (by omega)) E1 (by unfold M_tk1; rw [if_pos h1, h2]; rfl)
      · have h2 := zb_1.mp h2
        refine ev_W.fn rfl rfl ?_
        have := next _ _ (n + 1) (some (.int (sI s 5 i))) (by omega) (by unfold M_tk1; rw [if_pos h1]; exact R1.up (by omega) (by omega)) E1 (by unfold M_tk1; rw [if_pos h1, h2]; rfl)
        rw [← nI_1 n] at this
        exact this
    · refine ev_W.fn rfl rfl ?_
      refine ev_W.obj rfl R.o5 rfl ?_
      refine ev_W.fn rfl rfl ?_
      refine ev_W.nk R hi rfl ?_
      refine ev_W.clR rfl rfl rfl rfl rfl (R.o6 hi) ?_
      refine sp_N_growSilent R hi (fun G2 u2 R2 E2 => ?_)
      refine ev_W.br rfl rfl (fun h2 => ?_) (fun h2 => ?_)
      · have h2 := zb_n0.mp h2
        refine ev_W.fn rfl rfl ?_
        refine ev_W.brT rfl rfl h1 ?_
        exact next _ _ n _ (by omega) (by unfold M_tk1; rw [if_neg h1, h2]; exact R2.up (by omega) (by omega)) E2 (by unfold M_tk1; rw [if_neg h1, h2]; rfl)
      · have h2 := zb_1.mp h2
        refine ev_W.fn rfl rfl ?_
        refine ev_W.fn rfl rfl ?_
        refine ev_W.clR rfl rfl rfl rfl rfl R2.o5 ?_
        refine sp_B_closeAbruptly R2 hi hg (fun G3 u3 R3 E3 => ?_)
        refine ev_W.fn rfl rfl ?_
        refine ev_W.fn rfl rfl ?_
        have := next _ _ (n + 1) (some (.int (sI s 5 i))) (by omega) (by unfold M_tk1; rw [if_neg h1, if_pos h2]; exact R3.up (by omega) (by omega)) (E2.tr E3) (by unfold M_tk1; rw [if_neg h1, if_pos h2]; rfl)
        rw [← nI_1 n] at this
        exact this
theorem sp_B_passTick {n1 n2 : Nat} {G : hb_G} {s : hb_S} {h : ev_H} (R : hb_R z sz dyn mu G n1 n2 s h) (hb : ∀ j, j < 3 → ba 17 s j ∧ iA s j) (k : ∀ (G' : hb_G) (h' : ev_H), hb_R z sz dyn mu G' (n1 + 222) (n2 + 4587) (M_tkF 3 0 s 0).1 h' → hb_E dyn G h G' h' → Q (some (.int (nI (M_tkF 3 0 s 0).2)), h')) : ev_M (mf_B_passTick z) [.ref (sz + 24)] h Q := by
  refine ev_M.go rfl rfl ?_
  refine ev_W.fn rfl rfl ?_
  refine ev_W.fn rfl rfl ?_
  refine ev_W.fn rfl rfl ?_
  refine ev_W.fn rfl rfl ?_
  exact sp_tk_loop 3 0 0 _ _ _ _ _ _ rfl (Nat.le_refl _) R hb k
theorem sp_B_takeFailure {n1 n2 : Nat} {G : hb_G} {s : hb_S} {h : ev_H} (R : hb_R z sz dyn mu G n1 n2 s h) (k : ∀ (G' : hb_G) (h' : ev_H), hb_R z sz dyn mu G' n1 n2 (tI s 14 0 0) h' → hb_E dyn G h G' h' → Q (some (.int (sI s 14 0)), h')) : ev_M (mf_B_takeFailure z) [.ref (sz + 24)] h Q := by
  refine ev_M.go rfl rfl ?_
  refine ev_W.fn rfl rfl ?_
  refine ev_W.obj rfl R.o5 rfl ?_
  refine ev_W.fn rfl rfl ?_
  refine ev_W.fn rfl rfl ?_
  refine ev_W.fn rfl rfl ?_
  refine ev_W.w14 R rfl (fun u1 R1 E1 => ?_)
  refine ev_W.fn rfl rfl ?_
  refine ev_W.ret rfl rfl ?_
  exact k _ _ R1 E1
def M_rv (s : hb_S) (t : Int64) : Int32 := match ix_of (fun x => decide (x.1 = t)) (sM s 3) 0 with
  | none => 0
  | some i => match (sM s 3)[i]? with
    | none => 0
    | some m => m.2.1
theorem sp_B_retainedValue {n1 n2 : Nat} {G : hb_G} {s : hb_S} {h : ev_H} {t : Int64} (R : hb_R z sz dyn mu G n1 n2 s h) (k : Q (some (.int (M_rv s t)), h)) : ev_M (mf_B_retainedValue z) [.ref (sz + 24), .long t] h Q := by
  have hlen := R.mlen (l := 3) (by decide)
  unfold M_rv at k
  refine ev_M.go rfl rfl ?_
  refine ev_W.fn rfl rfl ?_
  refine ev_W.fn rfl rfl ?_
  refine ev_W.clR rfl rfl rfl rfl rfl R.o5 ?_
  refine sp_B_findRetained R ?_
  cases hix : ix_of (fun x => decide (x.1 = t)) (sM s 3) 0 with
  | none =>
    rw [hix] at k
    dsimp only at k
    refine ev_W.fn rfl rfl ?_
    refine ev_W.fn rfl rfl ?_
    refine ev_W.fn rfl rfl ?_
    refine ev_W.fn rfl rfl ?_
    refine ev_W.fn rfl rfl ?_
    refine ev_W.ret rfl rfl ?_
    exact k
  | some i =>
    rw [hix] at k
    obtain ⟨x, -, hx, hxf⟩ := ix_of_some hix
    have hil : i < (sM s 3).length := (List.getElem?_eq_some_iff.mp hx).1
    rw [Nat.sub_zero] at hx
    dsimp only at k
    rw [hx] at k
    obtain ⟨t', v, q, r⟩ := x
    refine ev_W.fn rfl rfl ?_
    refine ev_W.fn rfl rfl ?_
    refine ev_W.brT rfl rfl (nI_pos' (by omega)) ?_
    refine ev_W.fn rfl rfl ?_
    refine ev_W.obj rfl R.o5 rfl ?_
    refine ev_W.fn rfl rfl ?_
    refine ev_W.clR rfl rfl rfl rfl rfl (R.lo (hb_mj_lt (by decide))) ?_
    refine R.mget (by decide) hx (fun a1 hp1 => ?_)
    refine ev_W.cast rfl hp1.1 ?_
    refine ev_W.obj rfl hp1.1 rfl ?_
    refine ev_W.ret rfl rfl ?_
    exact k
end CL
