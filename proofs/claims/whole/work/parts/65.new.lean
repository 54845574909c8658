/-! New cells beside the hub's picture: colour 99 while they are made, then 0 (packets, messages) or their list's. -/
theorem ev_put_put {h : ev_H} {a : Nat} {x y : ev_E} : ev_put (ev_put h a x) a y = ev_put h a y := by
  simp only [ev_put]
  congr 2
  funext b
  simp only [ev_upd]
  split <;> rfl
section NW
variable {z : Nat × Nat} {sz dyn : Nat} {mu : Nat → Option ev_E} {G : hb_G} {n1 n2 : Nat} {s : hb_S} {h : ev_H}
theorem hb_R.new (R : hb_R z sz dyn mu G n1 n2 s h) (N col : Nat) (x : ev_E) : hb_R z sz dyn mu (va_up G.1 h.1 col, G.2) (n1 + 1) (n2 + N) s (ev_new h N x) := by
  obtain ⟨r1, r2, r3, r4, r5, r6, r7, r8, r9⟩ := R
  have hz : (ev_new h N x).1 = h.1 + 1 := rfl
  have hz2 : (ev_new h N x).2.1 = h.2.1 + N := rfl
  refine ⟨r1.new, r2, r3, by omega, by omega, by omega, fun b h1 h2 => (ev_new_ne (by omega)).trans (r7 b h1 h2), r8.keep (fun r _ _ => ev_new_ne (by omega)) rfl rfl rfl, fun j hj => ?_⟩
  have hro := hb_ro_lt j hj
  exact (r9 j hj).keep r1.1 (ev_new_ne (by omega)) (fun b hb1 hb2 _ => ⟨ev_new_ne (by omega), va_up_ne _ _ (by omega)⟩) rfl rfl rfl rfl
theorem hb_E.new (N col : Nat) (x : ev_E) : hb_E dyn G h (va_up G.1 h.1 col, G.2) (ev_new h N x) := ⟨Nat.le_succ _, fun b _ hl h0 => ⟨by dsimp only; rw [va_up_ne _ _ (by omega)]; exact h0, ev_new_ne (by omega)⟩⟩
theorem hb_R.pu {a : Nat} (R : hb_R z sz dyn mu G n1 n2 s h) (ha : dyn ≤ a) (hl : a < h.1) (hc : G.1 a = 99) (x : ev_E) : hb_R z sz dyn mu G n1 n2 s (ev_put h a x) := by
  obtain ⟨r1, r2, r3, r4, r5, r6, r7, r8, r9⟩ := R
  have hz : (ev_put h a x).1 = h.1 := rfl
  have hz2 : (ev_put h a x).2.1 = h.2.1 := rfl
  refine ⟨r1.put hl (by omega), r2, r3, by omega, by omega, by omega, fun b h1 h2 => (ev_put_ne (by omega)).trans (r7 b h1 h2), r8.keep (fun r _ _ => ev_put_ne (by omega)) rfl rfl rfl, fun j hj => ?_⟩
  have hro := hb_ro_lt j hj
  exact (r9 j hj).keep r1.1 (ev_put_ne (by omega)) (fun b hb1 hb2 hcol => ⟨ev_put_ne (fun q => by rw [q, hc] at hcol; omega), rfl⟩) rfl rfl rfl rfl
theorem hb_E.pu {a : Nat} (hc : G.1 a = 99) (x : ev_E) : hb_E dyn G h G (ev_put h a x) := ⟨Nat.le_refl _, fun b _ hl h0 => ⟨h0, ev_put_ne (fun q => by rw [q, hc] at h0; omega)⟩⟩
theorem hb_R.rec {a col : Nat} (R : hb_R z sz dyn mu G n1 n2 s h) (hc : G.1 a = 99) : hb_R z sz dyn mu (va_up G.1 a col, G.2) n1 n2 s h := by
  obtain ⟨r1, r2, r3, r4, r5, r6, r7, r8, r9⟩ := R
  refine ⟨r1, r2, r3, r4, r5, r6, r7, r8, fun j hj => ?_⟩
  exact (r9 j hj).keep r1.1 rfl (fun b hb1 hb2 hcol => ⟨rfl, va_up_ne _ _ (fun q => by rw [q, hc] at hcol; omega)⟩) rfl rfl rfl rfl
theorem hb_E.rec {a col : Nat} (hc : G.1 a = 99) : hb_E dyn G h (va_up G.1 a col, G.2) h := ⟨Nat.le_refl _, fun b _ hl h0 => ⟨by dsimp only; rw [va_up_ne _ _ (fun q => by rw [q, hc] at h0; omega)]; exact h0, rfl⟩⟩
-- a whole new packet or message, made and filled
theorem hb_R.mk0 (R : hb_R z sz dyn mu G n1 n2 s h) (N : Nat) (x y : ev_E) : hb_R z sz dyn mu (va_up G.1 h.1 0, G.2) (n1 + 1) (n2 + N) s (ev_put (ev_new h N x) h.1 y) ∧ hb_E dyn G h (va_up G.1 h.1 0, G.2) (ev_put (ev_new h N x) h.1 y) ∧ (ev_put (ev_new h N x) h.1 y).2.2 h.1 = some y ∧ dyn ≤ h.1 ∧ (va_up G.1 h.1 0) h.1 = 0 := by
  have a1 := R.new N 99 x
  have hd : dyn ≤ h.1 := R.2.2.2.1
  have c1 : (va_up G.1 h.1 99) h.1 = 99 := va_up_self _ _ _
  have a2 := a1.pu (a := h.1) hd (Nat.lt_succ_self _) c1 y
  have a3 := a2.rec (a := h.1) (col := 0) c1
  have e : va_up (va_up G.1 h.1 99) h.1 0 = va_up G.1 h.1 0 := bx_uu _ _ _ _
  dsimp only at a3
  rw [e] at a3
  refine ⟨a3, ⟨Nat.le_succ _, fun b _ hl h0 => ⟨?_, ?_⟩⟩, ev_put_same, hd, va_up_self _ _ _⟩
  · dsimp only; rw [va_up_ne _ _ (by omega)]; exact h0
  · rw [ev_put_ne (by omega), ev_new_ne (by omega)]
theorem hb_R.mk9 (R : hb_R z sz dyn mu G n1 n2 s h) (N : Nat) (x y : ev_E) : hb_R z sz dyn mu (va_up G.1 h.1 99, G.2) (n1 + 1) (n2 + N) s (ev_put (ev_new h N x) h.1 y) ∧ hb_E dyn G h (va_up G.1 h.1 99, G.2) (ev_put (ev_new h N x) h.1 y) ∧ (ev_put (ev_new h N x) h.1 y).2.2 h.1 = some y ∧ dyn ≤ h.1 ∧ (va_up G.1 h.1 99) h.1 = 99 := by
  have a1 := R.new N 99 x
  have hd : dyn ≤ h.1 := R.2.2.2.1
  have c1 : (va_up G.1 h.1 99) h.1 = 99 := va_up_self _ _ _
  refine ⟨a1.pu (a := h.1) hd (Nat.lt_succ_self _) c1 y, ⟨Nat.le_succ _, fun b _ hl h0 => ⟨?_, ?_⟩⟩, ev_put_same, hd, c1⟩
  · dsimp only; rw [va_up_ne _ _ (by omega)]; exact h0
  · rw [ev_put_ne (by omega), ev_new_ne (by omega)]
end NW
