/-! Class and reference side by side (laid by wip/whole/p99p.py). -/
section JN
variable {z : Nat × Nat} {sz N : Nat} {s s' : hb_S} {h h' : ev_H} {Q : ev_O → Prop} {c : Nat} {x : Int32}
theorem hb_R.mu {dyn : Nat} {mu : Nat → Option ev_E} {G : hb_G} {n1 n2 : Nat} (R : hb_R z sz dyn mu G n1 n2 s h) : hb_R z sz dyn h.2.2 G n1 n2 s h := by
  obtain ⟨a, b, c, d, e, f, _, g, i⟩ := R
  exact ⟨a, b, c, d, e, f, fun _ _ _ => rfl, g, i⟩
-- the reference's cells change: the class does not see it
theorem hb_R.rfx {mu : Nat → Option ev_E} {G : hb_G} {n1 n2 : Nat} (R : hb_R z sz (sz + 100) mu G n1 n2 s h) (E : rf_E (sz + 46) h h') (hp : hp_ok z h') : hb_R z sz (sz + 100) h'.2.2 G n1 n2 s h' := by
  obtain ⟨a, b, c, d, e, f, _, g, i⟩ := R
  obtain ⟨e1, e2, e3⟩ := E
  have lo : ∀ r, r < 46 → h'.2.2 (sz + r) = h.2.2 (sz + r) := fun r hr => e3 _ (by omega)
  have hi : ∀ a, sz + 100 ≤ a → h'.2.2 a = h.2.2 a := fun a ha => e3 _ (by omega)
  have lo3 : ∀ k r c, k + r * 2 < 46 → c < 3 → h'.2.2 (sz + (k + r * c)) = h.2.2 (sz + (k + r * c)) := fun k r c hk hc => e3 _ (by
    have : r * c ≤ r * 2 := Nat.mul_le_mul_left _ (by omega)
    omega)
  refine ⟨hp, b, c, by rw [e1]; exact d, by rw [e1]; exact e, by rw [e2]; exact f, fun _ _ _ => rfl, ?_, fun j hj => ?_⟩
  · obtain ⟨f0, f1, f2, f3, f4, f5, f6, f7, f8, f9, f10, f11, f12⟩ := g
    refine ⟨(lo 0 (by decide)).trans f0, ?_, ?_, (lo 24 (by decide)).trans f3, ?_, ?_, fun c hc => (lo3 3 7 c (by decide) hc).trans (f6 c hc), fun c hc => (lo3 6 7 c (by decide) hc).trans (f7 c hc), fun c hc => (lo3 8 7 c (by decide) hc).trans (f8 c hc), fun c hc => (lo3 9 7 c (by decide) hc).trans (f9 c hc), fun c hc => (lo3 28 6 c (by decide) hc).trans (f10 c hc), fun c hc => (lo3 29 6 c (by decide) hc).trans (f11 c hc), fun c hc => (lo3 33 6 c (by decide) hc).trans (f12 c hc)⟩
    · obtain ⟨q, q1, q2⟩ := f1; exact ⟨q, (lo 1 (by decide)).trans q1, q2⟩
    · obtain ⟨q, q1, q2⟩ := f2; exact ⟨q, (lo 2 (by decide)).trans q1, q2⟩
    · obtain ⟨q, q1, q2⟩ := f4; exact ⟨q, (lo 25 (by decide)).trans q1, q2⟩
    · obtain ⟨q, q1, q2⟩ := f5; exact ⟨q, (lo 26 (by decide)).trans q1, q2⟩
  · obtain ⟨⟨mc, l1, l2⟩, l3, l4, l5, l6⟩ := i j hj
    have hro : hb_ro j < 46 := by
      have : ∀ j, j < 19 → hb_ro j < 46 := by decide
      exact this j hj
    refine ⟨⟨mc, (lo _ hro).trans l1, ?_⟩, l3, l4, ?_, l6⟩
    · rcases l2 with l2 | ⟨n1, q, q1, q2⟩
      · exact Or.inl l2
      · refine Or.inr ⟨n1, q, ?_, q2⟩
        rcases l3 with l3 | l3
        · exact absurd l3 n1
        · rw [hi _ l3.1]; exact q1
    · have el : ∀ a v, hb_el G.1 (sz + 100) j h a v → hb_el G.1 (sz + 100) j h' a v := by
        intro a v ⟨ha, hv⟩
        refine ⟨ha, ?_⟩
        rcases v with v | v | v | v
        · exact ⟨(hi a ha).trans hv.1, hv.2⟩
        · exact ⟨(hi a ha).trans hv.1, hv.2⟩
        · exact ⟨(hi a ha).trans hv.1, hv.2⟩
        · obtain ⟨o1, ma, o2, o3, o4, o5⟩ := hv
          exact ⟨o1, ma, (hi a ha).trans o2, o3, o4, (hi ma o3).trans o5⟩
      have f2 : ∀ (l : List Nat) (t : List hb_Ev), hb_f2 (hb_el G.1 (sz + 100) j h) l t → hb_f2 (hb_el G.1 (sz + 100) j h') l t := by
        intro l
        induction l with
        | nil => intro t ht; cases t with
          | nil => exact ht
          | cons _ _ => exact ht
        | cons a l ih => intro t ht; cases t with
          | nil => exact ht
          | cons v t => exact ⟨el a v ht.1, ih t ht.2⟩
      exact f2 _ _ l5
-- the class's cells change: the reference does not see it
theorem zR.md {G : hb_G} {n1 n2 : Nat} {p : hb_Pk} {t : rf_S} (Z : zR z (sz + 46) s p t h) (R : hb_R z sz (sz + 100) h.2.2 G n1 n2 s' h') : zR z (sz + 46) s p t h' := by
  obtain ⟨⟨p1, p2, p3, p4, p5, p6, p7⟩, z2, z3, z4⟩ := Z
  have mu := R.2.2.2.2.2.2.1
  have rl : ∀ f, (rf_k f = 0 ∨ rf_k f = 1 ∨ rf_k f = 2) → h'.2.2 (sz + 46 + (1 + rf_r f)) = h.2.2 (sz + 46 + (1 + rf_r f)) := fun f hf => by
    have := rf_rl f (rf_kl f hf)
    exact mu _ (by omega) (by omega)
  refine ⟨⟨R.1, p2, by have := R.2.2.2.1; omega, (mu _ (by omega) (by omega)).trans p4, fun f hf => (rl f (Or.inl hf)).trans (p5 f hf), fun f hf => (rl f (Or.inr (Or.inl hf))).trans (p6 f hf), fun f hf => (rl f (Or.inr (Or.inr hf))).trans (p7 f hf)⟩, z2, z3, z4⟩
-- before a call; between the two
def jn (z : Nat × Nat) (sz N : Nat) (s : hb_S) (h : ev_H) : Prop := ∃ mu G p t, hb_R z sz (sz + 100) mu G (sz + 100 + 240 * N) (3326 + 4600 * N) s h ∧ zR z (sz + 46) s p t h ∧ INV N s
def jm (z : Nat × Nat) (sz N : Nat) (s s' : hb_S) (h : ev_H) : Prop := ∃ mu G p t, hb_R z sz (sz + 100) mu G (sz + 100 + 240 * (N + 1)) (3326 + 4600 * (N + 1)) s' h ∧ zR z (sz + 46) s p t h ∧ INV N s
theorem jn.o (J : jn z sz N s h) : ∃ fs, h.2.2 sz = some (.inr (0, fs)) := let ⟨_, _, _, _, R, _, _⟩ := J; ⟨_, R.o0⟩
theorem jm.o (J : jm z sz N s s' h) : ∃ fs, h.2.2 (sz + 46) = some (.inr (12, fs)) := let ⟨_, _, _, _, _, Z, _⟩ := J; ⟨_, Z.ob⟩
theorem jn.up (J : jn z sz N s h) : jn z sz (N + 1) s h := by
  obtain ⟨mu, G, p, t, R, Z, I⟩ := J
  exact ⟨mu, G, p, t, R.up (by omega) (by omega), Z, I.mono (by omega)⟩
theorem jn.same (J : jn z sz N s h) : jm z sz N s s h := by
  obtain ⟨mu, G, p, t, R, Z, I⟩ := J
  exact ⟨mu, G, p, t, R.up (by omega) (by omega), Z, I⟩
theorem jm.same (J : jm z sz N s s h) : jn z sz (N + 1) s h := by
  obtain ⟨mu, G, p, t, R, Z, I⟩ := J
  exact ⟨mu, G, p, t, R, Z, I.mono (by omega)⟩
theorem jm.to (J : jm z sz N s s' h) {p' : hb_Pk} {t' : rf_S} (Z' : zR z (sz + 46) s' p' t' h') (E : rf_E (sz + 46) h h') (I' : INV (N + 1) s') : jn z sz (N + 1) s' h' := by
  obtain ⟨mu, G, p, t, R, Z, I⟩ := J
  exact ⟨_, G, p', t', R.rfx E Z'.1.1, Z', I'⟩
theorem INV.up12 (I : INV N s) : ∀ j, j < 3 → ba 13 s j ∧ iA s j := fun j hj => ⟨(I.ci hj).2.2.2.2.2.1, fun q => (List.append_eq_nil_iff.mp ((I.ci hj).2.2.1.2.1 q).1).2, (I.ci hj).2.2.2.2.2.2.1⟩
theorem c_will {T : Int64} {v : Int32} (J : jn z sz N s h) (hc : c < 3) (k : ∀ h1, jm z sz N s (H_will s c T v).1 h1 → Q (some (.int (zb (H_will s c T v).2)), h1)) : ev_M (mf_H_will z) [.ref sz, .int (nI c), .long T, .int v] h Q := by
  obtain ⟨mu, G, p, t, R, Z, I⟩ := J
  exact sp_H_will R.mu hc  (fun G' h' R' _ => k h' ⟨_, G', p, t, R'.up (by omega) (by omega), Z.md R', I⟩)
theorem z_will {T : Int64} {v : Int32} (J : jm z sz N s (H_will s c T v).1 h) (hc : c < 3) (k : ∀ h1, jn z sz (N + 1) (H_will s c T v).1 h1 → Q (some (.int (zb (H_will s c T v).2)), h1)) : ev_M (mf_Z_will z) [.ref (sz + 46), .int (nI c), .long T, .int v] h Q := by
  have J0 := J
  obtain ⟨mu, G, p, t, R, Z, I⟩ := J
  exact sp_Z_will Z hc  (fun t' h' Z' E' => k h' (J0.to Z' E' ((INV_will hc T v I).mono (by omega))))
theorem c_con {cl : Bool} {ex wi ke : Int32} (J : jn z sz N s h) (hc : c < 3) (k : ∀ h1, jm z sz N s (H_con s c cl ex wi ke).1 h1 → Q (some (.int (zb (H_con s c cl ex wi ke).2)), h1)) : ev_M (mf_H_connect z) [.ref sz, .int (nI c), .int (zb cl), .int ex, .int wi, .int ke] h Q := by
  obtain ⟨mu, G, p, t, R, Z, I⟩ := J
  exact sp_H_con R.mu hc (by have := (I.ci hc).1.2; omega) (fun G' h' R' _ => k h' ⟨_, G', p, t, R'.up (by omega) (by omega), Z.md R', I⟩)
theorem z_con {cl : Bool} {ex wi ke : Int32} (J : jm z sz N s (H_con s c cl ex wi ke).1 h) (hc : c < 3) (k : ∀ h1, jn z sz (N + 1) (H_con s c cl ex wi ke).1 h1 → Q (some (.int (zb (H_con s c cl ex wi ke).2)), h1)) : ev_M (mf_Z_connect z) [.ref (sz + 46), .int (nI c), .int (zb cl), .int ex, .int wi, .int ke] h Q := by
  have J0 := J
  obtain ⟨mu, G, p, t, R, Z, I⟩ := J
  exact sp_Z_con Z hc (fun q => ((I.ci hc).2.2.1.1 q).1) (fun t' h' Z' E' => k h' (J0.to Z' E' ((INV_con hc cl ex wi ke I).mono (by omega))))
theorem c_drop  (J : jn z sz N s h) (hc : c < 3) (k : ∀ h1, jm z sz N s (H_drop s c).1 h1 → Q (some (.int (zb (H_drop s c).2)), h1)) : ev_M (mf_H_drop z) [.ref sz, .int (nI c)] h Q := by
  obtain ⟨mu, G, p, t, R, Z, I⟩ := J
  exact sp_H_drop R.mu hc  (fun G' h' R' _ => k h' ⟨_, G', p, t, R'.up (by omega) (by omega), Z.md R', I⟩)
theorem z_drop  (J : jm z sz N s (H_drop s c).1 h) (hc : c < 3) (k : ∀ h1, jn z sz (N + 1) (H_drop s c).1 h1 → Q (some (.int (zb (H_drop s c).2)), h1)) : ev_M (mf_Z_drop z) [.ref (sz + 46), .int (nI c)] h Q := by
  have J0 := J
  obtain ⟨mu, G, p, t, R, Z, I⟩ := J
  exact sp_Z_drop Z hc  (fun t' h' Z' E' => k h' (J0.to Z' E' ((INV_drop hc I).mono (by omega))))
theorem c_leave  (J : jn z sz N s h) (hc : c < 3) (k : ∀ h1, jm z sz N s (H_leave s c).1 h1 → Q (some (.int (zb (H_leave s c).2)), h1)) : ev_M (mf_H_leave z) [.ref sz, .int (nI c)] h Q := by
  obtain ⟨mu, G, p, t, R, Z, I⟩ := J
  exact sp_H_leave R.mu hc  (fun G' h' R' _ => k h' ⟨_, G', p, t, R'.up (by omega) (by omega), Z.md R', I⟩)
theorem z_leave  (J : jm z sz N s (H_leave s c).1 h) (hc : c < 3) (k : ∀ h1, jn z sz (N + 1) (H_leave s c).1 h1 → Q (some (.int (zb (H_leave s c).2)), h1)) : ev_M (mf_Z_leave z) [.ref (sz + 46), .int (nI c)] h Q := by
  have J0 := J
  obtain ⟨mu, G, p, t, R, Z, I⟩ := J
  exact sp_Z_leave Z hc  (fun t' h' Z' E' => k h' (J0.to Z' E' ((INV_leave hc I).mono (by omega))))
theorem c_ping  (J : jn z sz N s h) (hc : c < 3) (k : ∀ h1, jm z sz N s (H_ping s c).1 h1 → Q (some (.int (zb (H_ping s c).2)), h1)) : ev_M (mf_H_ping z) [.ref sz, .int (nI c)] h Q := by
  obtain ⟨mu, G, p, t, R, Z, I⟩ := J
  exact sp_H_ping R.mu hc  (fun G' h' R' _ => k h' ⟨_, G', p, t, R'.up (by omega) (by omega), Z.md R', I⟩)
theorem z_ping  (J : jm z sz N s (H_ping s c).1 h) (hc : c < 3) (k : ∀ h1, jn z sz (N + 1) (H_ping s c).1 h1 → Q (some (.int (zb (H_ping s c).2)), h1)) : ev_M (mf_Z_ping z) [.ref (sz + 46), .int (nI c)] h Q := by
  have J0 := J
  obtain ⟨mu, G, p, t, R, Z, I⟩ := J
  exact sp_Z_ping Z hc  (fun t' h' Z' E' => k h' (J0.to Z' E' ((INV_ping hc I).mono (by omega))))
theorem c_sub {T : Int64} {v : Int32} {b : Bool} (J : jn z sz N s h) (hc : c < 3) (k : ∀ h1, jm z sz N s (H_sub s c T v b).1 h1 → Q (some (.int (zb (H_sub s c T v b).2)), h1)) : ev_M (mf_H_subscribe z) [.ref sz, .int (nI c), .long T, .int v, .int (zb b)] h Q := by
  obtain ⟨mu, G, p, t, R, Z, I⟩ := J
  exact sp_H_sub R.mu hc  (fun G' h' R' _ => k h' ⟨_, G', p, t, R'.up (by omega) (by omega), Z.md R', I⟩)
theorem z_sub {T : Int64} {v : Int32} {b : Bool} (J : jm z sz N s (H_sub s c T v b).1 h) (hc : c < 3) (k : ∀ h1, jn z sz (N + 1) (H_sub s c T v b).1 h1 → Q (some (.int (zb (H_sub s c T v b).2)), h1)) : ev_M (mf_Z_subscribe z) [.ref (sz + 46), .int (nI c), .long T, .int v, .int (zb b)] h Q := by
  have J0 := J
  obtain ⟨mu, G, p, t, R, Z, I⟩ := J
  exact sp_Z_sub Z hc  (fun t' h' Z' E' => k h' (J0.to Z' E' ((INV_sub hc T v b I).mono (by omega))))
theorem c_uns {T : Int64} (J : jn z sz N s h) (hc : c < 3) (k : ∀ h1, jm z sz N s (H_uns s c T).1 h1 → Q (some (.int (zb (H_uns s c T).2)), h1)) : ev_M (mf_H_unsubscribe z) [.ref sz, .int (nI c), .long T] h Q := by
  obtain ⟨mu, G, p, t, R, Z, I⟩ := J
  exact sp_H_uns R.mu hc  (fun G' h' R' _ => k h' ⟨_, G', p, t, R'.up (by omega) (by omega), Z.md R', I⟩)
theorem z_uns {T : Int64} (J : jm z sz N s (H_uns s c T).1 h) (hc : c < 3) (k : ∀ h1, jn z sz (N + 1) (H_uns s c T).1 h1 → Q (some (.int (zb (H_uns s c T).2)), h1)) : ev_M (mf_Z_unsubscribe z) [.ref (sz + 46), .int (nI c), .long T] h Q := by
  have J0 := J
  obtain ⟨mu, G, p, t, R, Z, I⟩ := J
  exact sp_Z_uns Z hc  (fun t' h' Z' E' => k h' (J0.to Z' E' ((INV_uns hc T I).mono (by omega))))
theorem c_pub {T : Int64} {v q : Int32} {b : Bool} (J : jn z sz N s h) (hc : c < 3) (k : ∀ h1, jm z sz N s (H_pub s c T v q b).1 h1 → Q (some (.int (zb (H_pub s c T v q b).2)), h1)) : ev_M (mf_H_publish z) [.ref sz, .int (nI c), .long T, .int v, .int q, .int (zb b)] h Q := by
  obtain ⟨mu, G, p, t, R, Z, I⟩ := J
  exact sp_H_pub R.mu hc (fun G' h' R' _ => k h' ⟨_, G', p, t, R'.up (by omega) (by omega), Z.md R', I⟩)
theorem z_pub {T : Int64} {v q : Int32} {b : Bool} (J : jm z sz N s (H_pub s c T v q b).1 h) (hc : c < 3) (k : ∀ h1, jn z sz (N + 1) (H_pub s c T v q b).1 h1 → Q (some (.int (zb (H_pub s c T v q b).2)), h1)) : ev_M (mf_Z_publish z) [.ref (sz + 46), .int (nI c), .long T, .int v, .int q, .int (zb b)] h Q := by
  have J0 := J
  obtain ⟨mu, G, p, t, R, Z, I⟩ := J
  exact sp_Z_pub Z hc (I.ci hc).2.2.2.1 (fun t' h' Z' E' => k h' (J0.to Z' E' ((INV_pub hc T v q b I).mono (by omega)))) tpc_read
theorem c_up (J : jn z sz N s h) (hc : c < 3) (k : ∀ h1, jm z sz N s (H_up s c).1 h1 → Q (some (.int (H_up s c).2), h1)) : ev_M (mf_H_deliver z) [.ref sz, .int (nI c), .int (zb true)] h Q := by
  obtain ⟨mu, G, p, t, R, Z, I⟩ := J
  exact sp_H_up R.mu hc (fun p hp => ⟨((I.ci hc).1.1 p hp).1, fun q => (((I.ci hc).1.1 p hp).2.1 q).2.1⟩) I.up12 (fun G' h' R' _ => k h' ⟨_, G', p, t, R'.up (by omega) (by omega), Z.md R', I⟩)
theorem z_up (J : jm z sz N s (H_up s c).1 h) (hc : c < 3) (k : ∀ h1, jn z sz (N + 1) (H_up s c).1 h1 → Q (some (.int (H_up s c).2), h1)) : ev_M (mf_Z_deliver z) [.ref (sz + 46), .int (nI c), .int (zb true)] h Q := by
  have J0 := J
  obtain ⟨mu, G, p, t, R, Z, I⟩ := J
  exact sp_Z_up Z hc I (fun p' t' h' Z' E' => k h' (J0.to Z' E' ((INV_hup hc I).mono (by omega))))
theorem c_dn (J : jn z sz N s h) (hc : c < 3) (k : ∀ h1, jm z sz N s (H_dn s c).1 h1 → Q (some (.int (H_dn s c).2), h1)) : ev_M (mf_H_deliver z) [.ref sz, .int (nI c), .int (zb false)] h Q := by
  obtain ⟨mu, G, p, t, R, Z, I⟩ := J
  exact sp_H_dn R.mu hc (fun p hp => ((I.ci hc).2.1 p hp).1) (I.ci hc).2.2.2.1.1 (fun G' h' R' _ => k h' ⟨_, G', p, t, R'.up (by omega) (by omega), Z.md R', I⟩)
theorem z_dn (hN : N < 2 ^ 30) (J : jm z sz N s (H_dn s c).1 h) (hc : c < 3) (k : ∀ h1, jn z sz (N + 1) (H_dn s c).1 h1 → Q (some (.int (H_dn s c).2), h1)) : ev_M (mf_Z_deliver z) [.ref (sz + 46), .int (nI c), .int (zb false)] h Q := by
  have J0 := J
  obtain ⟨mu, G, p, t, R, Z, I⟩ := J
  exact sp_Z_dn hN Z hc I (fun p' t' h' Z' E' => k h' (J0.to Z' E' (INV_hdn hc I)))
theorem c_tick (J : jn z sz N s h) (k : ∀ h1, jm z sz N s (M_tkF 3 0 s 0).1 h1 → Q (some (.int (nI (M_tkF 3 0 s 0).2)), h1)) : ev_M (mf_H_tick z) [.ref sz] h Q := by
  obtain ⟨mu, G, p, t, R, Z, I⟩ := J
  exact sp_H_tick R.mu (fun j hj => ⟨(I.up12 j hj).1.mono (by decide), (I.up12 j hj).2⟩) (fun G' h' R' _ => k h' ⟨_, G', p, t, R'.up (by omega) (by omega), Z.md R', I⟩)
theorem z_tick (J : jm z sz N s (M_tkF 3 0 s 0).1 h) (k : ∀ h1, jn z sz (N + 1) (M_tkF 3 0 s 0).1 h1 → Q (some (.int (nI (M_tkF 3 0 s 0).2)), h1)) : ev_M (mf_Z_tick z) [.ref (sz + 46)] h Q := by
  have J0 := J
  obtain ⟨mu, G, p, t, R, Z, I⟩ := J
  exact sp_Z_tick Z I (fun t' h' Z' E' => k h' (J0.to Z' E' ((INV_tick I).mono (by omega))))
theorem c_crash (J : jn z sz N s h) (k : ∀ h1, jm z sz N s (M_bd s) h1 → Q (none, h1)) : ev_M (mf_H_crash z) [.ref sz] h Q := by
  obtain ⟨mu, G, p, t, R, Z, I⟩ := J
  exact sp_H_crash R.mu (fun G' h' R' _ => k h' ⟨_, G', p, t, R'.up (by omega) (by omega), Z.md R', I⟩)
theorem z_crash (J : jm z sz N s (M_bd s) h) (k : ∀ h1, jn z sz (N + 1) (M_bd s) h1 → Q (none, h1)) : ev_M (mf_Z_crash z) [.ref (sz + 46)] h Q := by
  have J0 := J
  obtain ⟨mu, G, p, t, R, Z, I⟩ := J
  exact sp_Z_crash Z (fun j hj => (I.ci hj).2.2.2.2.2.2.2.2.2.2.2.1) (fun t' h' Z' E' => k h' (J0.to Z' E' ((INV_bd I).mono (by omega))))
theorem c_fail (J : jn z sz N s h) (k : ∀ h1, jm z sz N s (if 0 ≤ x ∧ x ≤ 2 then tI s 14 0 x else s) h1 → Q (some (.int (zb (decide (0 ≤ x ∧ x ≤ 2)))), h1)) : ev_M (mf_H_fail z) [.ref sz, .int x] h Q := by
  obtain ⟨mu, G, p, t, R, Z, I⟩ := J
  exact sp_H_fail R.mu (fun G' h' R' _ => k h' ⟨_, G', p, t, R'.up (by omega) (by omega), Z.md R', I⟩)
theorem z_fail (J : jm z sz N s (if 0 ≤ x ∧ x ≤ 2 then tI s 14 0 x else s) h) (k : ∀ h1, jn z sz (N + 1) (if 0 ≤ x ∧ x ≤ 2 then tI s 14 0 x else s) h1 → Q (some (.int (zb (decide (0 ≤ x ∧ x ≤ 2)))), h1)) : ev_M (mf_Z_fail z) [.ref (sz + 46), .int x] h Q := by
  have J0 := J
  obtain ⟨mu, G, p, t, R, Z, I⟩ := J
  exact sp_Z_fail Z (fun t' h' Z' E' => k h' (J0.to Z' E' ((INV_fail I).mono (by omega))))
theorem c_state (J : jn z sz N s h) (hc : c < 3) (k : Q (some (.int (H_st s c)), h)) : ev_M (mf_H_state z) [.ref sz, .int (nI c)] h Q := by
  obtain ⟨mu, G, p, t, R, Z, I⟩ := J
  exact sp_H_state R hc k
theorem z_state (J : jm z sz N s s h) (hc : c < 3) (k : Q (some (.int (H_st s c)), h)) : ev_M (mf_Z_state z) [.ref (sz + 46), .int (nI c)] h Q := by
  obtain ⟨mu, G, p, t, R, Z, I⟩ := J
  exact sp_Z_state Z hc  k
theorem c_session (J : jn z sz N s h) (hc : c < 3) (k : Q (some (.int (M_ssum s c)), h)) : ev_M (mf_H_session z) [.ref sz, .int (nI c)] h Q := by
  obtain ⟨mu, G, p, t, R, Z, I⟩ := J
  exact sp_H_session R hc k
theorem z_session (J : jm z sz N s s h) (hc : c < 3) (k : Q (some (.int (M_ssum s c)), h)) : ev_M (mf_Z_session z) [.ref (sz + 46), .int (nI c)] h Q := by
  obtain ⟨mu, G, p, t, R, Z, I⟩ := J
  exact sp_Z_session Z hc (I.ci hc).2.2.2.2.2.2.2.2.2.2.2.1 k
theorem c_lineT (J : jn z sz N s h) (hc : c < 3) (k : Q (some (.int (nI (sN s (2 * c)).length)), h)) : ev_M (mf_H_line z) [.ref sz, .int (nI c), .int (zb true)] h Q := by
  obtain ⟨mu, G, p, t, R, Z, I⟩ := J
  exact sp_H_lineT R hc k
theorem z_lineT (J : jm z sz N s s h) (hc : c < 3) (k : Q (some (.int (nI (sN s (2 * c)).length)), h)) : ev_M (mf_Z_line z) [.ref (sz + 46), .int (nI c), .int (zb true)] h Q := by
  obtain ⟨mu, G, p, t, R, Z, I⟩ := J
  exact sp_Z_lineT Z hc  k
theorem c_lineF (J : jn z sz N s h) (hc : c < 3) (k : Q (some (.int (nI (sN s (2 * c + 1)).length)), h)) : ev_M (mf_H_line z) [.ref sz, .int (nI c), .int (zb false)] h Q := by
  obtain ⟨mu, G, p, t, R, Z, I⟩ := J
  exact sp_H_lineF R hc k
theorem z_lineF (J : jm z sz N s s h) (hc : c < 3) (k : Q (some (.int (nI (sN s (2 * c + 1)).length)), h)) : ev_M (mf_Z_line z) [.ref (sz + 46), .int (nI c), .int (zb false)] h Q := by
  obtain ⟨mu, G, p, t, R, Z, I⟩ := J
  exact sp_Z_lineF Z hc  k
theorem c_packetT (J : jn z sz N s h) (hc : c < 3) (k : Q (some (.long (H_pk (sN s (2 * c)) x)), h)) : ev_M (mf_H_packet z) [.ref sz, .int (nI c), .int (zb true), .int x] h Q := by
  obtain ⟨mu, G, p, t, R, Z, I⟩ := J
  exact sp_H_packetT R hc k
theorem z_packetT (J : jm z sz N s s h) (hc : c < 3) (k : Q (some (.long (H_pk (sN s (2 * c)) x)), h)) : ev_M (mf_Z_packet z) [.ref (sz + 46), .int (nI c), .int (zb true), .int x] h Q := by
  obtain ⟨mu, G, p, t, R, Z, I⟩ := J
  exact sp_Z_packetT Z hc  k
theorem c_packetF (J : jn z sz N s h) (hc : c < 3) (k : Q (some (.long (H_pk (sN s (2 * c + 1)) x)), h)) : ev_M (mf_H_packet z) [.ref sz, .int (nI c), .int (zb false), .int x] h Q := by
  obtain ⟨mu, G, p, t, R, Z, I⟩ := J
  exact sp_H_packetF R hc k
theorem z_packetF (J : jm z sz N s s h) (hc : c < 3) (k : Q (some (.long (H_pk (sN s (2 * c + 1)) x)), h)) : ev_M (mf_Z_packet z) [.ref (sz + 46), .int (nI c), .int (zb false), .int x] h Q := by
  obtain ⟨mu, G, p, t, R, Z, I⟩ := J
  exact sp_Z_packetF Z hc  k
theorem c_store (J : jn z sz N s h) (hc : c < 3) (k : Q (some (.int (M_csum s c)), h)) : ev_M (mf_H_store z) [.ref sz, .int (nI c)] h Q := by
  obtain ⟨mu, G, p, t, R, Z, I⟩ := J
  exact sp_H_store R hc k
theorem z_store (J : jm z sz N s s h) (hc : c < 3) (k : Q (some (.int (M_csum s c)), h)) : ev_M (mf_Z_store z) [.ref (sz + 46), .int (nI c)] h Q := by
  obtain ⟨mu, G, p, t, R, Z, I⟩ := J
  exact sp_Z_store Z hc (I.ci hc).2.2.2.1 (I.ci hc).2.2.2.2.2.2.2.2.2.2.1 k
theorem c_inbox (J : jn z sz N s h) (hc : c < 3) (k : Q (some (.int (M_in s c x)), h)) : ev_M (mf_H_inbox z) [.ref sz, .int (nI c), .int x] h Q := by
  obtain ⟨mu, G, p, t, R, Z, I⟩ := J
  exact sp_H_inbox R hc k
theorem z_inbox (hN : N < 2 ^ 30) (J : jm z sz N s s h) (hc : c < 3) (k : Q (some (.int (M_in s c x)), h)) : ev_M (mf_Z_inbox z) [.ref (sz + 46), .int (nI c), .int x] h Q := by
  obtain ⟨mu, G, p, t, R, Z, I⟩ := J
  obtain ⟨n, hn, en⟩ := (I.ci hc).2.2.2.2.2.2.2.2.2.2.2.2.1
  exact sp_Z_inbox Z hc en (by omega) k
theorem c_retained {T : Int64} (J : jn z sz N s h) (k : Q (some (.int (M_rv s (tx_read T))), h)) : ev_M (mf_H_retained z) [.ref sz, .long T] h Q := by
  obtain ⟨mu, G, p, t, R, Z, I⟩ := J
  exact sp_H_retained R k
theorem z_retained {T : Int64} (J : jm z sz N s s h) (k : Q (some (.int (M_rv s (tx_read T))), h)) : ev_M (mf_Z_retained z) [.ref (sz + 46), .long T] h Q := by
  obtain ⟨mu, G, p, t, R, Z, I⟩ := J
  exact sp_Z_retained Z I.2 k
theorem c_matches {F T : Int64} (k : Q (some (.int (zb (H_mt F T))), h)) : ev_M (mf_H_matches z) [.ref sz, .long F, .long T] h Q := sp_H_matches k
theorem z_matches {F T : Int64} (J : jm z sz N s s h) (k : ∀ h1, jn z sz (N + 1) s h1 → Q (some (.int (zb (H_mt F T))), h1)) : ev_M (mf_Z_matches z) [.ref (sz + 46), .long F, .long T] h Q := by
  have J0 := J
  obtain ⟨mu, G, p, t, R, Z, I⟩ := J
  exact sp_Z_matches Z (fun t' h' Z' E' => k h' (J0.to Z' E' (I.mono (by omega))))
theorem c_will0 {T : Int64} {v : Int32} (J : jn z sz N s h) (hx : ¬ (0 ≤ x ∧ x ≤ 2)) (k : Q (some (.int 0), h)) : ev_M (mf_H_will z) [.ref sz, .int x, .long T, .int v] h Q := by
  obtain ⟨mu, G, p, t, R, Z, I⟩ := J
  exact sp_H_will0 R hx k
theorem z_will0 {T : Int64} {v : Int32} (J : jm z sz N s s h) (hx : ¬ (0 ≤ x ∧ x ≤ 2)) (k : Q (some (.int 0), h)) : ev_M (mf_Z_will z) [.ref (sz + 46), .int x, .long T, .int v] h Q := by
  obtain ⟨mu, G, p, t, R, Z, I⟩ := J
  exact sp_Z_will0 Z hx k
theorem c_con0 {b : Bool} {v d e : Int32} (J : jn z sz N s h) (hx : ¬ (0 ≤ x ∧ x ≤ 2)) (k : Q (some (.int 0), h)) : ev_M (mf_H_connect z) [.ref sz, .int x, .int (zb b), .int v, .int d, .int e] h Q := by
  obtain ⟨mu, G, p, t, R, Z, I⟩ := J
  exact sp_H_con0 R hx k
theorem z_con0 {b : Bool} {v d e : Int32} (J : jm z sz N s s h) (hx : ¬ (0 ≤ x ∧ x ≤ 2)) (k : Q (some (.int 0), h)) : ev_M (mf_Z_connect z) [.ref (sz + 46), .int x, .int (zb b), .int v, .int d, .int e] h Q := by
  obtain ⟨mu, G, p, t, R, Z, I⟩ := J
  exact sp_Z_con0 Z hx k
theorem c_drop0  (J : jn z sz N s h) (hx : ¬ (0 ≤ x ∧ x ≤ 2)) (k : Q (some (.int 0), h)) : ev_M (mf_H_drop z) [.ref sz, .int x] h Q := by
  obtain ⟨mu, G, p, t, R, Z, I⟩ := J
  exact sp_H_drop0 R hx k
theorem z_drop0  (J : jm z sz N s s h) (hx : ¬ (0 ≤ x ∧ x ≤ 2)) (k : Q (some (.int 0), h)) : ev_M (mf_Z_drop z) [.ref (sz + 46), .int x] h Q := by
  obtain ⟨mu, G, p, t, R, Z, I⟩ := J
  exact sp_Z_drop0 Z hx k
theorem c_leave0  (J : jn z sz N s h) (hx : ¬ (0 ≤ x ∧ x ≤ 2)) (k : Q (some (.int 0), h)) : ev_M (mf_H_leave z) [.ref sz, .int x] h Q := by
  obtain ⟨mu, G, p, t, R, Z, I⟩ := J
  exact sp_H_leave0 R hx k
theorem z_leave0  (J : jm z sz N s s h) (hx : ¬ (0 ≤ x ∧ x ≤ 2)) (k : Q (some (.int 0), h)) : ev_M (mf_Z_leave z) [.ref (sz + 46), .int x] h Q := by
  obtain ⟨mu, G, p, t, R, Z, I⟩ := J
  exact sp_Z_leave0 Z hx k
theorem c_ping0  (J : jn z sz N s h) (hx : ¬ (0 ≤ x ∧ x ≤ 2)) (k : Q (some (.int 0), h)) : ev_M (mf_H_ping z) [.ref sz, .int x] h Q := by
  obtain ⟨mu, G, p, t, R, Z, I⟩ := J
  exact sp_H_ping0 R hx k
theorem z_ping0  (J : jm z sz N s s h) (hx : ¬ (0 ≤ x ∧ x ≤ 2)) (k : Q (some (.int 0), h)) : ev_M (mf_Z_ping z) [.ref (sz + 46), .int x] h Q := by
  obtain ⟨mu, G, p, t, R, Z, I⟩ := J
  exact sp_Z_ping0 Z hx k
theorem c_sub0 {T : Int64} {v : Int32} {b : Bool} (J : jn z sz N s h) (hx : ¬ (0 ≤ x ∧ x ≤ 2)) (k : Q (some (.int 0), h)) : ev_M (mf_H_subscribe z) [.ref sz, .int x, .long T, .int v, .int (zb b)] h Q := by
  obtain ⟨mu, G, p, t, R, Z, I⟩ := J
  exact sp_H_sub0 R hx k
theorem z_sub0 {T : Int64} {v : Int32} {b : Bool} (J : jm z sz N s s h) (hx : ¬ (0 ≤ x ∧ x ≤ 2)) (k : Q (some (.int 0), h)) : ev_M (mf_Z_subscribe z) [.ref (sz + 46), .int x, .long T, .int v, .int (zb b)] h Q := by
  obtain ⟨mu, G, p, t, R, Z, I⟩ := J
  exact sp_Z_sub0 Z hx k
theorem c_uns0 {T : Int64} (J : jn z sz N s h) (hx : ¬ (0 ≤ x ∧ x ≤ 2)) (k : Q (some (.int 0), h)) : ev_M (mf_H_unsubscribe z) [.ref sz, .int x, .long T] h Q := by
  obtain ⟨mu, G, p, t, R, Z, I⟩ := J
  exact sp_H_uns0 R hx k
theorem z_uns0 {T : Int64} (J : jm z sz N s s h) (hx : ¬ (0 ≤ x ∧ x ≤ 2)) (k : Q (some (.int 0), h)) : ev_M (mf_Z_unsubscribe z) [.ref (sz + 46), .int x, .long T] h Q := by
  obtain ⟨mu, G, p, t, R, Z, I⟩ := J
  exact sp_Z_uns0 Z hx k
theorem c_pub0 {T : Int64} {v d : Int32} {b : Bool} (J : jn z sz N s h) (hx : ¬ (0 ≤ x ∧ x ≤ 2)) (k : Q (some (.int 0), h)) : ev_M (mf_H_publish z) [.ref sz, .int x, .long T, .int v, .int d, .int (zb b)] h Q := by
  obtain ⟨mu, G, p, t, R, Z, I⟩ := J
  exact sp_H_pub0 R hx k
theorem z_pub0 {T : Int64} {v d : Int32} {b : Bool} (J : jm z sz N s s h) (hx : ¬ (0 ≤ x ∧ x ≤ 2)) (k : Q (some (.int 0), h)) : ev_M (mf_Z_publish z) [.ref (sz + 46), .int x, .long T, .int v, .int d, .int (zb b)] h Q := by
  obtain ⟨mu, G, p, t, R, Z, I⟩ := J
  exact sp_Z_pub0 Z hx k
theorem c_dlv0 {b : Bool} (J : jn z sz N s h) (hx : ¬ (0 ≤ x ∧ x ≤ 2)) (k : Q (some (.int 0), h)) : ev_M (mf_H_deliver z) [.ref sz, .int x, .int (zb b)] h Q := by
  obtain ⟨mu, G, p, t, R, Z, I⟩ := J
  exact sp_H_dlv0 R hx k
theorem z_dlv0 {b : Bool} (J : jm z sz N s s h) (hx : ¬ (0 ≤ x ∧ x ≤ 2)) (k : Q (some (.int 0), h)) : ev_M (mf_Z_deliver z) [.ref (sz + 46), .int x, .int (zb b)] h Q := by
  obtain ⟨mu, G, p, t, R, Z, I⟩ := J
  exact sp_Z_dlv0 Z hx k
theorem c_state0  (J : jn z sz N s h) (hx : ¬ (0 ≤ x ∧ x ≤ 2)) (k : Q (some (.int (-1)), h)) : ev_M (mf_H_state z) [.ref sz, .int x] h Q := by
  obtain ⟨mu, G, p, t, R, Z, I⟩ := J
  exact sp_H_state0 R hx k
theorem z_state0  (J : jm z sz N s s h) (hx : ¬ (0 ≤ x ∧ x ≤ 2)) (k : Q (some (.int (-1)), h)) : ev_M (mf_Z_state z) [.ref (sz + 46), .int x] h Q := by
  obtain ⟨mu, G, p, t, R, Z, I⟩ := J
  exact sp_Z_state0 Z hx k
theorem c_session0  (J : jn z sz N s h) (hx : ¬ (0 ≤ x ∧ x ≤ 2)) (k : Q (some (.int (-1)), h)) : ev_M (mf_H_session z) [.ref sz, .int x] h Q := by
  obtain ⟨mu, G, p, t, R, Z, I⟩ := J
  exact sp_H_session0 R hx k
theorem z_session0  (J : jm z sz N s s h) (hx : ¬ (0 ≤ x ∧ x ≤ 2)) (k : Q (some (.int (-1)), h)) : ev_M (mf_Z_session z) [.ref (sz + 46), .int x] h Q := by
  obtain ⟨mu, G, p, t, R, Z, I⟩ := J
  exact sp_Z_session0 Z hx k
theorem c_line0 {b : Bool} (J : jn z sz N s h) (hx : ¬ (0 ≤ x ∧ x ≤ 2)) (k : Q (some (.int 0), h)) : ev_M (mf_H_line z) [.ref sz, .int x, .int (zb b)] h Q := by
  obtain ⟨mu, G, p, t, R, Z, I⟩ := J
  exact sp_H_line0 R hx k
theorem z_line0 {b : Bool} (J : jm z sz N s s h) (hx : ¬ (0 ≤ x ∧ x ≤ 2)) (k : Q (some (.int 0), h)) : ev_M (mf_Z_line z) [.ref (sz + 46), .int x, .int (zb b)] h Q := by
  obtain ⟨mu, G, p, t, R, Z, I⟩ := J
  exact sp_Z_line0 Z hx k
theorem c_packet0 {b : Bool} {v : Int32} (J : jn z sz N s h) (hx : ¬ (0 ≤ x ∧ x ≤ 2)) (k : Q (some (.long 0), h)) : ev_M (mf_H_packet z) [.ref sz, .int x, .int (zb b), .int v] h Q := by
  obtain ⟨mu, G, p, t, R, Z, I⟩ := J
  exact sp_H_packet0 R hx k
theorem z_packet0 {b : Bool} {v : Int32} (J : jm z sz N s s h) (hx : ¬ (0 ≤ x ∧ x ≤ 2)) (k : Q (some (.long 0), h)) : ev_M (mf_Z_packet z) [.ref (sz + 46), .int x, .int (zb b), .int v] h Q := by
  obtain ⟨mu, G, p, t, R, Z, I⟩ := J
  exact sp_Z_packet0 Z hx k
theorem c_inbox0 {v : Int32} (J : jn z sz N s h) (hx : ¬ (0 ≤ x ∧ x ≤ 2)) (k : Q (some (.int 0), h)) : ev_M (mf_H_inbox z) [.ref sz, .int x, .int v] h Q := by
  obtain ⟨mu, G, p, t, R, Z, I⟩ := J
  exact sp_H_inbox0 R hx k
theorem z_inbox0 {v : Int32} (J : jm z sz N s s h) (hx : ¬ (0 ≤ x ∧ x ≤ 2)) (k : Q (some (.int 0), h)) : ev_M (mf_Z_inbox z) [.ref (sz + 46), .int x, .int v] h Q := by
  obtain ⟨mu, G, p, t, R, Z, I⟩ := J
  exact sp_Z_inbox0 Z hx k
theorem c_store0  (J : jn z sz N s h) (hx : ¬ (0 ≤ x ∧ x ≤ 2)) (k : Q (some (.int (-1)), h)) : ev_M (mf_H_store z) [.ref sz, .int x] h Q := by
  obtain ⟨mu, G, p, t, R, Z, I⟩ := J
  exact sp_H_store0 R hx k
theorem z_store0  (J : jm z sz N s s h) (hx : ¬ (0 ≤ x ∧ x ≤ 2)) (k : Q (some (.int (-1)), h)) : ev_M (mf_Z_store z) [.ref (sz + 46), .int x] h Q := by
  obtain ⟨mu, G, p, t, R, Z, I⟩ := J
  exact sp_Z_store0 Z hx k
end JN
