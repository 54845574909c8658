/-! The hub's picture at the start (laid by wip/whole/p84.py). -/
def hb_s0 : hb_S := (fun _ _ => 0, fun _ _ => 0, fun _ _ => 0, fun _ => [], fun _ => [], fun _ => [], fun _ => [])
def hb_g0 (z : Nat × Nat) : hb_G := (fun _ => 0, fun _ => [], fun _ => z.1, fun _ => 0)
theorem hb_start {z : Nat × Nat} {sz m dyn : Nat} {g : Nat → Option ev_E} {h0 h : ev_H} (P : pc_ z sz m g (hub_L z sz) h0) (hp : hp_ok z h) (hk : ∀ b, b < sz + 46 → h.2.2 b = h0.2.2 b) (hd : sz + 46 ≤ dyn) (hl : dyn ≤ h.1) : hb_R z sz dyn h.2.2 (hb_g0 z) h.1 h.2.1 hb_s0 h := by
  have at_ : ∀ (r : Nat) (x : ev_E), r < 46 → (hub_L z sz)[r]? = some x → h.2.2 (sz + r) = some x := fun r x hr hx => (hk _ (by omega)).trans (P.at hx)
  refine ⟨hp, P.2.1, hd, hl, Nat.le_refl _, Nat.le_refl _, fun _ _ _ => rfl, ⟨?_, ?_, ?_, ?_, ?_, ?_, ?_, ?_, ?_, ?_, ?_, ?_, ?_⟩, fun j hj => ?_⟩
  · exact at_ 0 _ (by decide) rfl
  · exact ⟨_, at_ 1 _ (by decide) rfl, fun c hc => by rcases (show c = 0 ∨ c = 1 ∨ c = 2 by omega) with rfl | rfl | rfl <;> rfl⟩
  · exact ⟨_, at_ 2 _ (by decide) rfl, fun c hc => by rcases (show c = 0 ∨ c = 1 ∨ c = 2 by omega) with rfl | rfl | rfl <;> rfl⟩
  · exact at_ 24 _ (by decide) rfl
  · exact ⟨_, at_ 25 _ (by decide) rfl, fun c hc => by rcases (show c = 0 ∨ c = 1 ∨ c = 2 by omega) with rfl | rfl | rfl <;> rfl⟩
  · exact ⟨_, at_ 26 _ (by decide) rfl, fun c hc => by rcases (show c = 0 ∨ c = 1 ∨ c = 2 by omega) with rfl | rfl | rfl <;> rfl⟩

  · intro c hc
    rcases (show c = 0 ∨ c = 1 ∨ c = 2 by omega) with rfl | rfl | rfl
    · exact at_ 3 _ (by decide) rfl
    · exact at_ 10 _ (by decide) rfl
    · exact at_ 17 _ (by decide) rfl
  · intro c hc
    rcases (show c = 0 ∨ c = 1 ∨ c = 2 by omega) with rfl | rfl | rfl
    · exact at_ 6 _ (by decide) rfl
    · exact at_ 13 _ (by decide) rfl
    · exact at_ 20 _ (by decide) rfl
  · intro c hc
    rcases (show c = 0 ∨ c = 1 ∨ c = 2 by omega) with rfl | rfl | rfl
    · exact at_ 8 _ (by decide) rfl
    · exact at_ 15 _ (by decide) rfl
    · exact at_ 22 _ (by decide) rfl
  · intro c hc
    rcases (show c = 0 ∨ c = 1 ∨ c = 2 by omega) with rfl | rfl | rfl
    · exact at_ 9 _ (by decide) rfl
    · exact at_ 16 _ (by decide) rfl
    · exact at_ 23 _ (by decide) rfl
  · intro c hc
    rcases (show c = 0 ∨ c = 1 ∨ c = 2 by omega) with rfl | rfl | rfl
    · exact at_ 28 _ (by decide) rfl
    · exact at_ 34 _ (by decide) rfl
    · exact at_ 40 _ (by decide) rfl
  · intro c hc
    rcases (show c = 0 ∨ c = 1 ∨ c = 2 by omega) with rfl | rfl | rfl
    · exact at_ 29 _ (by decide) rfl
    · exact at_ 35 _ (by decide) rfl
    · exact at_ 41 _ (by decide) rfl
  · intro c hc
    rcases (show c = 0 ∨ c = 1 ∨ c = 2 by omega) with rfl | rfl | rfl
    · exact at_ 33 _ (by decide) rfl
    · exact at_ 39 _ (by decide) rfl
    · exact at_ 45 _ (by decide) rfl
  · have hx : hb_X hb_s0 j = [] := by
      unfold hb_X
      simp only [hb_s0, sN, sP, sB, sM, List.map_nil]
      split <;> (try rfl)
      split <;> (try rfl)
      split <;> (try rfl)
      split <;> (try rfl)
      split <;> rfl
    have hc : h.2.2 (sz + hb_ro j) = some (ls0 z) := by
      rcases (show j = 0 ∨ j = 1 ∨ j = 2 ∨ j = 3 ∨ j = 4 ∨ j = 5 ∨ j = 6 ∨ j = 7 ∨ j = 8 ∨ j = 9 ∨ j = 10 ∨ j = 11 ∨ j = 12 ∨ j = 13 ∨ j = 14 ∨ j = 15 ∨ j = 16 ∨ j = 17 ∨ j = 18 by omega) with rfl | rfl | rfl | rfl | rfl | rfl | rfl | rfl | rfl | rfl | rfl | rfl | rfl | rfl | rfl | rfl | rfl | rfl | rfl <;> exact at_ _ _ (by decide) rfl
    unfold hb_ls
    rw [hx]
    exact ⟨⟨0, hc, Or.inl ⟨rfl, rfl, rfl⟩⟩, Or.inl rfl, Nat.zero_le _, trivial, fun _ => List.nodup_nil⟩
