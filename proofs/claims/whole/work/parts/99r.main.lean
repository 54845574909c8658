/-! The law's loop and its start (laid by wip/whole/p99r.py). -/
theorem RR_0 : RR hb_s0 rf_t0 := by
  have pl0 : tz_pl 0 = 0 := by decide +kernel
  have hb0 : ∀ i, i < 9 → (0 : Int32) = zb (hbit 0 (nI i)) := by decide +kernel
  exact ⟨fun _ _ => rfl, fun _ _ => rfl, fun _ _ => rfl, fun _ _ => rfl, fun _ _ => rfl, fun _ _ => rfl, fun _ _ => rfl, fun _ _ => rfl, fun _ _ => rfl, fun _ _ => rfl, fun _ _ => rfl, fun _ _ => rfl, fun _ _ => pl0.symm, fun _ _ => pl0.symm, fun c _ i hi => hb0 i hi, fun c _ i hi => hb0 i hi, fun _ _ _ _ => rfl, fun l _ => ⟨rfl, fun k p hk => (by cases hk)⟩, fun c _ => ⟨rfl, fun k p hk => (by cases hk)⟩, fun c _ => ⟨rfl, fun k p hk => (by cases hk)⟩, fun c _ => ⟨rfl, rfl, fun k p hk => (by cases hk), fun k p hk => (by cases hk)⟩, ⟨rfl, fun k p hk => (by cases hk)⟩, rfl⟩
theorem rg_0 : rg rf_t0 (0, 0, 0, 0, 0, false, false, 0, 0, 0) := by
  have pl0 : tz_pl 0 = 0 := by decide +kernel
  exact ⟨rfl, rfl, rfl, rfl, rfl, fun q => absurd q (by show ¬ (0 : Int32) = 1; decide), fun _ => pl0.symm⟩
theorem BD_0 : BD hb_s0 := ⟨fun _ _ => Nat.zero_le _, fun _ _ => Nat.zero_le _, fun _ _ => Nat.zero_le _, fun _ _ => Nat.zero_le _, Nat.zero_le _⟩
theorem and31 (x : Int32) : ∃ k, k < 32 ∧ x &&& 31 = nI k := by
  refine ⟨x.toUInt32.toNat % 32, Nat.mod_lt _ (by decide), ?_⟩
  refine (fun (q : ∀ a b : Int32, a.toUInt32 = b.toUInt32 → a = b) => q _ _ ?_) (fun a b q => congrArg UInt32.toInt32 q)
  apply UInt32.toNat_inj.mp
  rw [Int32.toUInt32_and]
  show (x.toUInt32 &&& 31).toNat = (UInt32.ofNat (x.toUInt32.toNat % 32)).toNat
  rw [UInt32.toNat_and, UInt32.toNat_ofNat']
  show x.toUInt32.toNat &&& (2 ^ 5 - 1) = _
  rw [Nat.and_two_pow_sub_one_eq_mod]
  have := x.toUInt32.toNat_lt
  omega
section LL
variable {b Ls : Nat} {xs : Nat → Int32} {z : Nat × Nat} {sz : Nat}
def lwQ (sz : Nat) (o : ev_O) : Prop := o.1 = some (.int 1) ∧ o.2.1 ≤ sz + 600000 ∧ o.2.2.1 ≤ 7302250
theorem lw_sub {Ls j : Nat} (hL : Ls ≤ 3584) (hj : 7 * j < 2 ^ 31) : (nI Ls - 7 < nI (7 * j)) ↔ Ls < 7 * j + 7 := by
  constructor
  · intro q
    apply Classical.byContradiction
    intro w
    rw [show nI Ls - 7 = nI (Ls - 7) from nI_sub (b := 7) (by omega)] at q
    have := (nI_ltI (by omega) hj).mp q
    omega
  · intro q
    by_cases h7 : 7 ≤ Ls
    · rw [show nI Ls - 7 = nI (Ls - 7) from nI_sub (b := 7) h7]
      exact nI_lt (by omega) hj
    · have hneg : nI Ls - 7 < 0 := by
        rcases (show Ls = 0 ∨ Ls = 1 ∨ Ls = 2 ∨ Ls = 3 ∨ Ls = 4 ∨ Ls = 5 ∨ Ls = 6 by omega) with rfl | rfl | rfl | rfl | rfl | rfl | rfl <;> decide
      exact Int32.lt_of_lt_of_le hneg (nI_pos' hj)
set_option maxRecDepth 4000 in
theorem lw_loop (hL : Ls ≤ 3584) : ∀ (n j : Nat) (s : hb_S) (h : ev_H), j + n = Ls / 7 → jn z sz j s h → ev_W (mk_law b Ls xs z) (18, lwL b sz j, [], h) (lwQ sz) := by
  intro n
  induction n with
  | zero =>
    intro j s h hn J
    refine ev_W.fn (flw_0 rfl) rfl ?_
    refine ev_W.fn (flw_0 rfl) rfl ?_
    refine ev_W.slenN (flw_0 rfl) ?_
    refine ev_W.fn (flw_0 rfl) rfl ?_
    refine ev_W.fn (flw_0 rfl) rfl ?_
    refine ev_W.brT (flw_0 rfl) rfl ((lw_sub hL (by omega)).mpr (by omega)) ?_
    refine ev_W.fn (flw_12 (by decide) rfl) rfl ?_
    refine ev_W.zret (flw_12 (by decide) rfl) (Or.inr rfl) ?_
    obtain ⟨mu, G, p, t, R, Z, I⟩ := J
    exact ⟨rfl, by have := R.2.2.2.2.1; show h.1 ≤ sz + 600000; omega, by have := R.2.2.2.2.2.1; show h.2.1 ≤ 7302250; omega⟩
  | succ n ih =>
    intro j s h hn J
    have hj : 7 * j + 7 ≤ Ls := by omega
    refine ev_W.fn (flw_0 rfl) rfl ?_
    refine ev_W.fn (flw_0 rfl) rfl ?_
    refine ev_W.slenN (flw_0 rfl) ?_
    refine ev_W.fn (flw_0 rfl) rfl ?_
    refine ev_W.fn (flw_0 rfl) rfl ?_
    refine ev_W.brF (flw_0 rfl) rfl (fun q => by have := (lw_sub hL (by omega)).mp q; omega) ?_
    refine ev_W.fn (flw_0 rfl) rfl ?_
    refine ev_W.fn (flw_0 rfl) rfl ?_
    refine ev_W.sldN (flw_0 rfl) rfl (by omega) (by omega) rfl ?_
    refine ev_W.fn (flw_0 rfl) rfl ?_
    refine ev_W.fn (flw_0 rfl) rfl ?_
    have back : ∀ s' h', jn z sz (j + 1) s' h' → ev_W (mk_law b Ls xs z) (1075, lwL b sz j, [], h') (lwQ sz) := by
      intro s' h' J'
      refine ev_W.fn (flw_12 (by decide) rfl) rfl ?_
      refine ev_W.fn (flw_12 (by decide) rfl) rfl ?_
      have nx := ih (j + 1) s' h' (by omega) J'
      have e7 : nI (7 * (j + 1)) = nI (7 * j) + 7 := (nI_add (7 * j) 7).symm
      unfold lwL at nx
      rw [e7] at nx
      exact nx
    have hN : j < 2 ^ 30 := by omega
    obtain ⟨k, hk, ek⟩ := and31 (xs (7 * j))
    rw [ek]

    rcases (show k = 0 ∨ k = 1 ∨ k = 2 ∨ k = 3 ∨ k = 4 ∨ k = 5 ∨ k = 6 ∨ k = 7 ∨ k = 8 ∨ k = 9 ∨ k = 10 ∨ k = 11 ∨ k = 12 ∨ k = 13 ∨ k = 14 ∨ k = 15 ∨ k = 16 ∨ k = 17 ∨ k = 18 ∨ k = 19 ∨ k = 20 ∨ k = 21 ∨ k = 22 ∨ k = 23 ∨ k = 24 ∨ k = 25 ∨ k = 26 ∨ k = 27 ∨ k = 28 ∨ k = 29 ∨ k = 30 ∨ k = 31 by omega) with rfl | rfl | rfl | rfl | rfl | rfl | rfl | rfl | rfl | rfl | rfl | rfl | rfl | rfl | rfl | rfl | rfl | rfl | rfl | rfl | rfl | rfl | rfl | rfl | rfl | rfl | rfl | rfl | rfl | rfl | rfl | rfl
    · refine ev_W.fn (flw_0 rfl) rfl ?_
      exact law_0 hN hj hL J back
    · refine ev_W.fn (flw_0 rfl) rfl ?_
      exact law_1 hN hj hL J back
    · refine ev_W.fn (flw_0 rfl) rfl ?_
      exact law_2 hN hj hL J back
    · refine ev_W.fn (flw_0 rfl) rfl ?_
      exact law_3 hN hj hL J back
    · refine ev_W.fn (flw_0 rfl) rfl ?_
      exact law_4 hN hj hL J back
    · refine ev_W.fn (flw_0 rfl) rfl ?_
      exact law_5 hN hj hL J back
    · refine ev_W.fn (flw_0 rfl) rfl ?_
      exact law_6 hN hj hL J back
    · refine ev_W.fn (flw_0 rfl) rfl ?_
      exact law_7 hN hj hL J back
    · refine ev_W.fn (flw_0 rfl) rfl ?_
      exact law_8 hN hj hL J back
    · refine ev_W.fn (flw_0 rfl) rfl ?_
      exact law_9 hN hj hL J back
    · refine ev_W.fn (flw_0 rfl) rfl ?_
      exact law_10 hN hj hL J back
    · refine ev_W.fn (flw_0 rfl) rfl ?_
      exact law_11 hN hj hL J back
    · refine ev_W.fn (flw_0 rfl) rfl ?_
      exact law_12 hN hj hL J back
    · refine ev_W.fn (flw_0 rfl) rfl ?_
      exact law_13 hN hj hL J back
    · refine ev_W.fn (flw_0 rfl) rfl ?_
      exact law_14 hN hj hL J back
    · refine ev_W.fn (flw_0 rfl) rfl ?_
      exact law_15 hN hj hL J back
    · refine ev_W.fn (flw_0 rfl) rfl ?_
      exact law_16 hN hj hL J back
    · refine ev_W.fn (flw_0 rfl) rfl ?_
      exact law_17 hN hj hL J back
    · refine ev_W.fn (flw_0 rfl) rfl ?_
      exact law_18 hN hj hL J back
    · refine ev_W.fn (flw_0 rfl) rfl ?_
      exact law_19 hN hj hL J back
    · refine ev_W.fn (flw_0 rfl) rfl ?_
      exact back _ _ J.up
    · refine ev_W.fn (flw_0 rfl) rfl ?_
      exact back _ _ J.up
    · refine ev_W.fn (flw_0 rfl) rfl ?_
      exact back _ _ J.up
    · refine ev_W.fn (flw_0 rfl) rfl ?_
      exact back _ _ J.up
    · refine ev_W.fn (flw_0 rfl) rfl ?_
      exact back _ _ J.up
    · refine ev_W.fn (flw_0 rfl) rfl ?_
      exact back _ _ J.up
    · refine ev_W.fn (flw_0 rfl) rfl ?_
      exact back _ _ J.up
    · refine ev_W.fn (flw_0 rfl) rfl ?_
      exact back _ _ J.up
    · refine ev_W.fn (flw_0 rfl) rfl ?_
      exact back _ _ J.up
    · refine ev_W.fn (flw_0 rfl) rfl ?_
      exact back _ _ J.up
    · refine ev_W.fn (flw_0 rfl) rfl ?_
      exact back _ _ J.up
    · refine ev_W.fn (flw_0 rfl) rfl ?_
      exact back _ _ J.up
end LL
theorem main : lw_main := by
  intro b L sz xs z hL hb hz
  have P0 : pc_ z sz 0 (fun _ => none) [] (sz, 0, fun _ => none) := ⟨⟨fun b x q => (by cases q), rfl, hz⟩, hz, rfl, rfl, fun r x q => (by cases q), fun _ _ => rfl⟩
  refine ev_W.kn P0 (flw_0 rfl) rfl rfl (fun h1 P1 => ?_)
  refine ev_W.fn (flw_0 rfl) rfl ?_
  refine ev_W.clI (flw_0 rfl) rfl rfl rfl rfl ?_
  refine sp_H_init P1 (fun h2 P2 => ?_)
  refine ev_W.fn (flw_0 rfl) rfl ?_
  have hl : (hub_L z sz).length = 46 := rfl
  have P3 : pc_ z (sz + 46) (0 + 3 + 452) h2.2.2 [] h2 := ⟨P2.1, by omega, by rw [P2.2.2.1, hl]; rfl, P2.2.2.2.1, fun r x q => (by cases q), fun _ _ => rfl⟩
  refine ev_W.kn P3 (flw_0 rfl) rfl rfl (fun h3 P4 => ?_)
  refine ev_W.fn (flw_0 rfl) rfl ?_
  refine ev_W.clI (flw_0 rfl) rfl rfl rfl rfl ?_
  refine sp_Z_init P4 (fun h4 P5 => ?_)
  refine ev_W.fn (flw_0 rfl) rfl ?_
  refine ev_W.fn (flw_0 rfl) rfl ?_
  refine ev_W.fn (flw_0 rfl) rfl ?_
  have hm : (mod_L (sz + 46)).length = 54 := rfl
  have e1 : h4.1 = sz + 100 := by rw [P5.2.2.1, hm]
  have R := hb_start (dyn := sz + 100) P2 P5.1 (fun b hb => P5.2.2.2.2.2 b hb) (by omega) (by rw [e1]; exact Nat.le_refl _)
  have J : jn z sz 0 hb_s0 h4 := ⟨_, _, _, _, R.up (by rw [e1]; omega) (by rw [P5.2.2.2.1]; omega), ⟨rf_start P5, RR_0, rg_0, BD_0⟩, INV_0⟩
  exact lw_loop hL (L / 7) 0 hb_s0 h4 (Nat.zero_add _) J
