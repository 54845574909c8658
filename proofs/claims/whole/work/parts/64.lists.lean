/-! More on the hub's lists: size, get, remove, clear, set. -/
section HL
variable {z : Nat × Nat} {sz dyn : Nat} {mu : Nat → Option ev_E} {G : hb_G} {n1 n2 j : Nat} {s : hb_S} {h : ev_H} {Q : ev_O → Prop}
theorem hb_R.len (R : hb_R z sz dyn mu G n1 n2 s h) (hj : j < 19) : (G.2.1 j).length = (hb_X s j).length := hb_f2_len (R.2.2.2.2.2.2.2.2 j hj).2.2.2.1
theorem hb_R.cap (R : hb_R z sz dyn mu G n1 n2 s h) (hj : j < 19) : (hb_X s j).length ≤ 40 := by
  have Hj := R.2.2.2.2.2.2.2.2 j hj
  have hl := R.len hj
  obtain ⟨mc, -, q⟩ := Hj.1
  have hc := Hj.2.2.1
  rcases q with ⟨-, q, -⟩ | ⟨-, f, -, q, -⟩
  · rw [← hl, q]; simp
  · omega
theorem hb_R.size (R : hb_R z sz dyn mu G n1 n2 s h) (hj : j < 19) (k : Q (some (.int (nI (hb_X s j).length)), h)) : ev_M (mf_A_size z) [.ref (sz + hb_ro j)] h Q := by
  have Hj := R.2.2.2.2.2.2.2.2 j hj
  refine sp_A_size z Hj.1 ?_
  rw [R.len hj]; exact k
theorem hb_R.empty (R : hb_R z sz dyn mu G n1 n2 s h) (hj : j < 19) (k : Q (some (.int (zb (hb_X s j).isEmpty)), h)) : ev_M (mf_A_isEmpty z) [.ref (sz + hb_ro j)] h Q := by
  have Hj := R.2.2.2.2.2.2.2.2 j hj
  have hl := R.len hj
  have hc := R.cap hj
  refine sp_A_isEmpty z Hj.1 (by omega) ?_
  have : (G.2.1 j).isEmpty = (hb_X s j).isEmpty := by
    cases e1 : G.2.1 j with
    | nil =>
      rw [e1] at hl
      cases e2 : hb_X s j with
      | nil => rfl
      | cons => rw [e2] at hl; simp at hl
    | cons =>
      rw [e1] at hl
      cases e2 : hb_X s j with
      | nil => rw [e2] at hl; simp at hl
      | cons => rfl
  rw [this]; exact k
theorem hb_R.lobj (R : hb_R z sz dyn mu G n1 n2 s h) (hj : j < 19) : ∃ fs, h.2.2 (sz + hb_ro j) = some (.inr (2, fs)) := by
  obtain ⟨mc, q, -⟩ := (R.2.2.2.2.2.2.2.2 j hj).1
  exact ⟨_, q⟩
theorem hb_R.get {i : Nat} {ev : hb_Ev} (R : hb_R z sz dyn mu G n1 n2 s h) (hj : j < 19) (hi : (hb_X s j)[i]? = some ev) (k : ∀ a, (G.2.1 j)[i]? = some a → hb_el G.1 dyn j h a ev → Q (some (.ref a), h)) : ev_M (mf_A_get z) [.ref (sz + hb_ro j), .int (nI i)] h Q := by
  have Hj := R.2.2.2.2.2.2.2.2 j hj
  obtain ⟨a, ha, hel⟩ := hb_f2_get Hj.2.2.2.1 hi
  have hc := Hj.2.2.1
  exact sp_A_get z Hj.1 (by omega) ha (k a ha hel)
-- what stays when only list j's object and array are written
theorem hb_R.lput {h' : ev_H} {G' : hb_G} {s' : hb_S} (R : hb_R z sz dyn mu G n1 n2 s h) (hj : j < 19) (hfr0 : ∀ b, (b ≠ G.2.2.1 j ∨ G.2.2.1 j = z.1) → b ≠ sz + hb_ro j → h'.2.2 b = h.2.2 b) (e1 : h'.1 = h.1) (e2 : h'.2.1 = h.2.1) (hs : hb_same s s') (hX : ∀ i, i < 19 → i ≠ j → hb_X s' i = hb_X s i) (g0 : G'.1 = G.1) (g1 : ∀ i, i ≠ j → G'.2.1 i = G.2.1 i) (g2 : G'.2.2.1 = G.2.2.1) (g3 : G'.2.2.2 = G.2.2.2)
    (hat : ls_at z h' (sz + hb_ro j) (G.2.2.1 j) (G.2.2.2 j) (G'.2.1 j)) (hf2 : hb_f2 (hb_el G.1 dyn j h') (G'.2.1 j) (hb_X s' j)) (hnd : ((6 ≤ j ∧ j < 12) ∨ (15 ≤ j ∧ j < 18)) → (G'.2.1 j).Nodup) : hb_R z sz dyn mu G' n1 n2 s' h' := by
  obtain ⟨r1, r2, r3, r4, r5, r6, r7, r8, r9⟩ := R
  have Hj := r9 j hj
  have hro := hb_ro_lt j hj
  have hel := Hj.2.1
  have hfr : ∀ b, b ≠ G.2.2.1 j → b ≠ sz + hb_ro j → h'.2.2 b = h.2.2 b := fun b h1 h2 => hfr0 b (Or.inl h1) h2
  refine ⟨⟨fun b x hb => ?_, ?_, by rw [e1]; exact r1.2.2⟩, r2, r3, by omega, by omega, by omega, fun b hb1 hb2 => ?_, ?_, fun i hi => ?_⟩
  · rw [e1]
    by_cases q1 : b = G.2.2.1 j
    · rcases hel with e | ⟨e, -, -⟩
      · rw [q1, e]; exact r1.2.2
      · by_cases hz : G.2.2.1 j = z.1
        · rw [q1, hz]; exact r1.2.2
        · obtain ⟨x, hx⟩ := Hj.1.arr hz
          rw [q1]; exact r1.1 _ _ hx
    · by_cases q2 : b = sz + hb_ro j
      · omega
      · rw [hfr b q1 q2] at hb; exact r1.1 b x hb
  · by_cases hz : G.2.2.1 j = z.1
    · rw [hfr0 z.1 (Or.inr hz) (by omega)]; exact r1.2.1
    · rw [hfr z.1 (Ne.symm hz) (by omega)]; exact r1.2.1
  · rw [hfr b (by rcases hel with e | ⟨e, -, -⟩ <;> omega) (by omega)]; exact r7 b hb1 hb2
  · exact r8.keep (fun r hr hrl => hfr _ (by rcases hel with e | ⟨e, -, -⟩ <;> omega) (fun q => hrl j hj (by omega))) hs.1 hs.2.1 hs.2.2
  · by_cases hij : i = j
    · subst hij
      unfold hb_ls
      rw [g2, g3, g0]
      exact ⟨hat, hel, Hj.2.2.1, hf2, hnd⟩
    · refine (r9 i hi).keep r1.1 (hfr _ (by have := hb_ro_lt i hi; rcases hel with e | ⟨e, -, -⟩ <;> omega) (fun q => hij (hb_ro_inj j hj i hi (by omega)))) (fun b hb1 hb2 hcol => ⟨hfr b (fun q => ?_) (by omega), by rw [g0]⟩) (g1 i hij) (by rw [g2]) (by rw [g3]) (hX i hi hij)
      rw [q] at hcol
      rcases hel with e | ⟨-, e, -⟩
      · omega
      · rw [e] at hcol; omega
theorem hb_R.rem {i : Nat} {ev : hb_Ev} (R : hb_R z sz dyn mu G n1 n2 s h) (hj : j < 19) (hi : (hb_X s j)[i]? = some ev)
    (k : ∀ (G' : hb_G) (h' : ev_H) (a : Nat), (G.2.1 j)[i]? = some a → hb_el G.1 dyn j h' a ev → G'.1 = G.1 → (∀ s' : hb_S, hb_same s s' → hb_X s' j = (hb_X s j).eraseIdx i → (∀ i, i < 19 → i ≠ j → hb_X s' i = hb_X s i) → hb_R z sz dyn mu G' n1 n2 s' h') → hb_E dyn G h G' h' → (∀ b, dyn ≤ b → G.1 b = 99 → h'.2.2 b = h.2.2 b) → Q (some (.ref a), h')) : ev_M (mf_A_remove z) [.ref (sz + hb_ro j), .int (nI i)] h Q := by
  have R0 := R
  obtain ⟨r1, r2, r3, r4, r5, r6, r7, r8, r9⟩ := R
  have Hj := r9 j hj
  have hro := hb_ro_lt j hj
  have hel := Hj.2.1
  obtain ⟨a, ha, hea⟩ := hb_f2_get Hj.2.2.2.1 hi
  have hc := Hj.2.2.1
  have hz : G.2.2.1 j ≠ z.1 := by
    obtain ⟨mc, -, q⟩ := Hj.1
    rcases q with ⟨-, q, -⟩ | ⟨q, -⟩
    · rw [q] at ha; simp at ha
    · exact q
  have hel2 : dyn ≤ G.2.2.1 j ∧ G.1 (G.2.2.1 j) = 1 + j := by
    rcases hel with e | ⟨e1, e2, -⟩
    · exact absurd e hz
    · exact ⟨e1, e2⟩
  refine sp_A_remove z Hj.1 Hj.ob (fun hm => by have := Hj.ge _ hm; omega) (by omega) (by omega) ha (fun h' q1 q2 q3 q4 => ?_)
  have hke : ∀ b, dyn ≤ b → b < h.1 → (G.1 b = 0 ∨ G.1 b = 100 + j) → h'.2.2 b = h.2.2 b ∧ G.1 b = G.1 b := fun b hb1 _ hcol => ⟨q2 b (fun q => by rw [q, hel2.2] at hcol; omega) (by omega), rfl⟩
  refine k (G.1, va_up G.2.1 j ((G.2.1 j).eraseIdx i), G.2.2) h' a ha (hea.keep r1.1 hke) rfl (fun s' hs hX hX' => ?_) ⟨by omega, fun b hb hl h0 => ⟨h0, (hke b hb hl (Or.inl h0)).1⟩⟩ (fun b hb h9 => q2 b (fun q => by rw [q, hel2.2] at h9; omega) (by omega))
  refine R0.lput hj (fun b hb1 hb2 => q2 b (hb1.elim id (fun q => absurd q hz)) hb2) q3 q4 hs hX' rfl (fun i hi => va_up_ne _ _ hi) rfl rfl (by dsimp only; rw [va_up_self]; exact q1) ?_ (fun hn => by dsimp only; rw [va_up_self]; exact (Hj.2.2.2.2 hn).sublist (List.eraseIdx_sublist _ _))
  dsimp only
  rw [va_up_self, hX]
  exact hb_f2_erase i (hb_f2_mono Hj.2.2.2.1 (fun a b _ _ H => H.keep r1.1 hke))
theorem hb_R.clr (R : hb_R z sz dyn mu G n1 n2 s h) (hj : j < 19)
    (k : ∀ (G' : hb_G) (h' : ev_H), G'.1 = G.1 → (∀ s' : hb_S, hb_same s s' → hb_X s' j = [] → (∀ i, i < 19 → i ≠ j → hb_X s' i = hb_X s i) → hb_R z sz dyn mu G' n1 n2 s' h') → hb_E dyn G h G' h' → Q (none, h')) : ev_M (mf_A_clear z) [.ref (sz + hb_ro j)] h Q := by
  have R0 := R
  obtain ⟨r1, r2, r3, r4, r5, r6, r7, r8, r9⟩ := R
  have Hj := r9 j hj
  have hro := hb_ro_lt j hj
  have hel := Hj.2.1
  have hc := Hj.2.2.1
  refine sp_A_clear z Hj.1 (by rcases hel with e | ⟨e, -, -⟩ <;> omega) (by omega) (fun h' q1 q2 q3 q4 => ?_)
  have hke : ∀ b, dyn ≤ b → b < h.1 → G.1 b = 0 → h'.2.2 b = h.2.2 b := fun b hb1 _ hcol => q2 b (by
    rcases hel with e | ⟨-, e, -⟩
    · exact Or.inr e
    · exact Or.inl (fun q => by rw [q, e] at hcol; omega)) (by omega)
  refine k (G.1, va_up G.2.1 j [], G.2.2) h' rfl (fun s' hs hX hX' => ?_) ⟨by omega, fun b hb hl h0 => ⟨h0, hke b hb hl h0⟩⟩
  refine R0.lput hj q2 q3 q4 hs hX' rfl (fun i hi => va_up_ne _ _ hi) rfl rfl (by dsimp only; rw [va_up_self]; exact q1) ?_ (fun hn => by dsimp only; rw [va_up_self]; exact List.nodup_nil)
  dsimp only
  rw [va_up_self, hX]
  trivial
theorem hb_R.set {i v : Nat} {ev ev' : hb_Ev} (R : hb_R z sz dyn mu G n1 n2 s h) (hj : j < 19) (hjn : ¬ ((6 ≤ j ∧ j < 12) ∨ (15 ≤ j ∧ j < 18))) (hi : (hb_X s j)[i]? = some ev) (hv : hb_el G.1 dyn j h v ev') (h0v : G.1 v = 0)
    (k : ∀ (G' : hb_G) (h' : ev_H) (a : Nat), G'.1 = G.1 → (∀ s' : hb_S, hb_same s s' → hb_X s' j = (hb_X s j).set i ev' → (∀ i, i < 19 → i ≠ j → hb_X s' i = hb_X s i) → hb_R z sz dyn mu G' n1 n2 s' h') → hb_E dyn G h G' h' → Q (some (.ref a), h')) : ev_M (mf_A_set z) [.ref (sz + hb_ro j), .int (nI i), .ref v] h Q := by
  have R0 := R
  obtain ⟨r1, r2, r3, r4, r5, r6, r7, r8, r9⟩ := R
  have Hj := r9 j hj
  have hro := hb_ro_lt j hj
  have hel := Hj.2.1
  obtain ⟨a, ha, hea⟩ := hb_f2_get Hj.2.2.2.1 hi
  obtain ⟨ci, fs, hcl, hci⟩ := hv.cls
  have hc := Hj.2.2.1
  have hz : G.2.2.1 j ≠ z.1 := by
    obtain ⟨mc, -, q⟩ := Hj.1
    rcases q with ⟨-, q, -⟩ | ⟨q, -⟩
    · rw [q] at ha; simp at ha
    · exact q
  have hel2 : dyn ≤ G.2.2.1 j ∧ G.1 (G.2.2.1 j) = 1 + j := by
    rcases hel with e | ⟨e1, e2, -⟩
    · exact absurd e hz
    · exact ⟨e1, e2⟩
  refine sp_A_set z Hj.1 (by omega) (by omega) ha hcl hci (fun q => by rw [q, hel2.2] at h0v; omega) (fun h' q1 q2 q3 q4 => ?_)
  have hke : ∀ b, dyn ≤ b → b < h.1 → (G.1 b = 0 ∨ G.1 b = 100 + j) → h'.2.2 b = h.2.2 b ∧ G.1 b = G.1 b := fun b hb1 _ hcol => ⟨q2 b (fun q => by rw [q, hel2.2] at hcol; omega), rfl⟩
  refine k (G.1, va_up G.2.1 j ((G.2.1 j).set i v), G.2.2) h' a rfl (fun s' hs hX hX' => ?_) ⟨by omega, fun b hb hl h0 => ⟨h0, (hke b hb hl (Or.inl h0)).1⟩⟩
  refine R0.lput hj (fun b hb1 _ => q2 b (hb1.elim id (fun q => absurd q hz))) q3 q4 hs hX' rfl (fun i hi => va_up_ne _ _ hi) rfl rfl (by dsimp only; rw [va_up_self]; exact q1) ?_ (fun hn => absurd hn hjn)
  dsimp only
  rw [va_up_self, hX]
  exact hb_f2_set (hb_f2_mono Hj.2.2.2.1 (fun a b _ _ H => H.keep r1.1 hke)) (hv.keep r1.1 hke)
end HL
