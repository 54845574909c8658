/-! The hub's picture when one fixed object is written (written by wip/whole/genrep.py). -/
theorem hb_el.keep {own own' : Nat → Nat} {dyn j : Nat} {h h' : ev_H} {a : Nat} {v : hb_Ev} (hh : ∀ b x, h.2.2 b = some x → b < h.1) (H : hb_el own dyn j h a v) (h2 : ∀ b, dyn ≤ b → b < h.1 → (own b = 0 ∨ own b = 100 + j) → h'.2.2 b = h.2.2 b ∧ own' b = own b) : hb_el own' dyn j h' a v := by
  obtain ⟨h0, H⟩ := H
  refine ⟨h0, ?_⟩
  rcases v with p | m | s | x
  · obtain ⟨q1, q2⟩ := H
    obtain ⟨e1, e2⟩ := h2 a h0 (hh a _ q1) (Or.inl q2)
    exact ⟨e1.trans q1, e2.trans q2⟩
  · obtain ⟨q1, q2⟩ := H
    obtain ⟨e1, e2⟩ := h2 a h0 (hh a _ q1) (Or.inl q2)
    exact ⟨e1.trans q1, e2.trans q2⟩
  · obtain ⟨q1, q2⟩ := H
    obtain ⟨e1, e2⟩ := h2 a h0 (hh a _ q1) (Or.inr q2)
    exact ⟨e1.trans q1, e2.trans q2⟩
  · obtain ⟨q1, ma, q2, q3, q4, q5⟩ := H
    obtain ⟨e1, e2⟩ := h2 a h0 (hh a _ q2) (Or.inr q1)
    obtain ⟨e3, e4⟩ := h2 ma q3 (hh ma _ q5) (Or.inl q4)
    exact ⟨e2.trans q1, ma, e1.trans q2, q3, e4.trans q4, e3.trans q5⟩
theorem ls_at.keep {z : Nat × Nat} {h h' : ev_H} {a e cap : Nat} {xs : List Nat} (H : ls_at z h a e cap xs) (h1 : h'.2.2 a = h.2.2 a) (h2 : e ≠ z.1 → h'.2.2 e = h.2.2 e) : ls_at z h' a e cap xs := by
  obtain ⟨mc, q1, q2⟩ := H
  refine ⟨mc, h1.trans q1, ?_⟩
  rcases q2 with q | ⟨q3, f, q4, q5⟩
  · exact Or.inl q
  · exact Or.inr ⟨q3, f, (h2 q3).trans q4, q5⟩
theorem ls_at.arr {z : Nat × Nat} {h : ev_H} {a e cap : Nat} {xs : List Nat} (H : ls_at z h a e cap xs) (hne : e ≠ z.1) : ∃ x, h.2.2 e = some x := by
  obtain ⟨mc, q1, q2⟩ := H
  rcases q2 with q | ⟨q3, f, q4, q5⟩
  · exact absurd q.1 hne
  · exact ⟨_, q4⟩
theorem hb_ls.keep {z : Nat × Nat} {sz dyn : Nat} {G G' : hb_G} {X X' : Nat → List hb_Ev} {h h' : ev_H} {j : Nat} (hh : ∀ b x, h.2.2 b = some x → b < h.1) (H : hb_ls z sz dyn G X h j) (h1 : h'.2.2 (sz + hb_ro j) = h.2.2 (sz + hb_ro j)) (h2 : ∀ b, dyn ≤ b → b < h.1 → (G.1 b = 0 ∨ G.1 b = 1 + j ∨ G.1 b = 100 + j) → h'.2.2 b = h.2.2 b ∧ G'.1 b = G.1 b) (g1 : G'.2.1 j = G.2.1 j) (g2 : G'.2.2.1 j = G.2.2.1 j) (g3 : G'.2.2.2 j = G.2.2.2 j) (hX : X' j = X j) : hb_ls z sz dyn G' X' h' j := by
  obtain ⟨q1, q2, q3, q4, q5⟩ := H
  have harr : ∀ hne : G.2.2.1 j ≠ z.1, h'.2.2 (G.2.2.1 j) = h.2.2 (G.2.2.1 j) ∧ G'.1 (G.2.2.1 j) = G.1 (G.2.2.1 j) := fun hne => by
    obtain ⟨x, hx⟩ := q1.arr hne
    rcases q2 with e | ⟨e1, e2, -⟩
    · exact absurd e hne
    · exact h2 _ e1 (hh _ _ hx) (Or.inr (Or.inl e2))
  unfold hb_ls
  rw [g1, g2, g3, hX]
  refine ⟨q1.keep h1 (fun hne => (harr hne).1), ?_, q3, hb_f2_mono q4 (fun a b _ _ H => H.keep hh (fun b hb1 hb2 hc => h2 b hb1 hb2 (hc.imp id Or.inr))), q5⟩
  by_cases hne : G.2.2.1 j = z.1
  · exact Or.inl hne
  · rcases q2 with e | ⟨e1, e2, e3⟩
    · exact Or.inl e
    · exact Or.inr ⟨e1, (harr hne).2.trans e2, e3⟩
def hb_lr (r : Nat) : Bool := (List.range 19).all (fun j => hb_ro j != r)
theorem hb_ro_lt : ∀ j, j < 19 → hb_ro j < 46 := by decide
theorem hb_ls.fix {z : Nat × Nat} {sz dyn : Nat} {mu : Nat → Option ev_E} {G : hb_G} {n1 n2 r : Nat} {s s' : hb_S} {h : ev_H} {x : ev_E} (R : hb_R z sz dyn mu G n1 n2 s h) (hr : r < 46) (hl : ∀ j, j < 19 → hb_ro j ≠ r) (hX : ∀ j, j < 19 → hb_X s' j = hb_X s j) : ∀ j, j < 19 → hb_ls z sz dyn G (hb_X s') (ev_put h (sz + r) x) j := by
  obtain ⟨r1, r2, r3, r4, r5, r6, r7, r8, r9⟩ := R
  intro j hj
  refine (r9 j hj).keep r1.1 (ev_put_ne (fun q => hl j hj (by omega))) (fun b hb _ _ => ⟨ev_put_ne (by omega), rfl⟩) rfl rfl rfl (hX j hj)

theorem hb_R.i0 {z : Nat × Nat} {sz dyn : Nat} {mu : Nat → Option ev_E} {G : hb_G} {n1 n2 c : Nat} {s : hb_S} {h : ev_H} (R : hb_R z sz dyn mu G n1 n2 s h) (hc : c < 3) (v : Int32) : hb_R z sz dyn mu G n1 n2 (tI s 0 c v) (ev_put h (sz + (3 + 7 * c)) (.inr (1, [.ref (sz + (4 + 7 * c)), .ref (sz + (5 + 7 * c)), .int v, .int (sI s 1 c)]))) := by
  have hL := hb_ls.fix (s' := (tI s 0 c v)) (x := (.inr (1, [.ref (sz + (4 + 7 * c)), .ref (sz + (5 + 7 * c)), .int v, .int (sI s 1 c)]))) R (r := 3 + 7 * c) (by omega) (fun j hj => by revert j; rcases (show c = 0 ∨ c = 1 ∨ c = 2 by omega) with rfl | rfl | rfl <;> decide) (fun j _ => rfl)
  obtain ⟨r1, r2, r3, r4, r5, r6, r7, ⟨f0, f1, f2, f3, f4, f5, f6, f7, f8, f9, f10, f11, f12⟩, r9⟩ := R
  refine ⟨r1.put (by omega) (by omega), r2, r3, r4, r5, r6, fun b h1 h2 => (ev_put_ne (by omega)).trans (r7 b h1 h2), ⟨?_, ?_, ?_, ?_, ?_, ?_, ?_, ?_, ?_, ?_, ?_, ?_, ?_⟩, hL⟩
  · rw [show sz = sz + 0 from rfl, ev_put_ne (by omega)]; exact f0
  · rw [ev_put_ne (by omega)]; exact f1
  · rw [ev_put_ne (by omega)]; exact f2
  · rw [ev_put_ne (by omega)]; exact f3
  · rw [ev_put_ne (by omega)]; exact f4
  · rw [ev_put_ne (by omega)]; exact f5
  · intro c' hc'
    by_cases e : c' = c
    · subst e; rw [ev_put_same]; simp [tI, sI, sJ, hb_u2]
    · rw [ev_put_ne (by omega), f6 c' hc']; simp [tI, sI, sJ, hb_u2, e]
  · intro c' hc'; rw [ev_put_ne (by omega)]; exact f7 c' hc'
  · intro c' hc'; rw [ev_put_ne (by omega)]; exact f8 c' hc'
  · intro c' hc'; rw [ev_put_ne (by omega)]; exact f9 c' hc'
  · intro c' hc'; rw [ev_put_ne (by omega)]; exact f10 c' hc'
  · intro c' hc'; rw [ev_put_ne (by omega)]; exact f11 c' hc'
  · intro c' hc'; rw [ev_put_ne (by omega)]; exact f12 c' hc'
theorem hb_R.i1 {z : Nat × Nat} {sz dyn : Nat} {mu : Nat → Option ev_E} {G : hb_G} {n1 n2 c : Nat} {s : hb_S} {h : ev_H} (R : hb_R z sz dyn mu G n1 n2 s h) (hc : c < 3) (v : Int32) : hb_R z sz dyn mu G n1 n2 (tI s 1 c v) (ev_put h (sz + (3 + 7 * c)) (.inr (1, [.ref (sz + (4 + 7 * c)), .ref (sz + (5 + 7 * c)), .int (sI s 0 c), .int v]))) := by
  have hL := hb_ls.fix (s' := (tI s 1 c v)) (x := (.inr (1, [.ref (sz + (4 + 7 * c)), .ref (sz + (5 + 7 * c)), .int (sI s 0 c), .int v]))) R (r := 3 + 7 * c) (by omega) (fun j hj => by revert j; rcases (show c = 0 ∨ c = 1 ∨ c = 2 by omega) with rfl | rfl | rfl <;> decide) (fun j _ => rfl)
  obtain ⟨r1, r2, r3, r4, r5, r6, r7, ⟨f0, f1, f2, f3, f4, f5, f6, f7, f8, f9, f10, f11, f12⟩, r9⟩ := R
  refine ⟨r1.put (by omega) (by omega), r2, r3, r4, r5, r6, fun b h1 h2 => (ev_put_ne (by omega)).trans (r7 b h1 h2), ⟨?_, ?_, ?_, ?_, ?_, ?_, ?_, ?_, ?_, ?_, ?_, ?_, ?_⟩, hL⟩
  · rw [show sz = sz + 0 from rfl, ev_put_ne (by omega)]; exact f0
  · rw [ev_put_ne (by omega)]; exact f1
  · rw [ev_put_ne (by omega)]; exact f2
  · rw [ev_put_ne (by omega)]; exact f3
  · rw [ev_put_ne (by omega)]; exact f4
  · rw [ev_put_ne (by omega)]; exact f5
  · intro c' hc'
    by_cases e : c' = c
    · subst e; rw [ev_put_same]; simp [tI, sI, sJ, hb_u2]
    · rw [ev_put_ne (by omega), f6 c' hc']; simp [tI, sI, sJ, hb_u2, e]
  · intro c' hc'; rw [ev_put_ne (by omega)]; exact f7 c' hc'
  · intro c' hc'; rw [ev_put_ne (by omega)]; exact f8 c' hc'
  · intro c' hc'; rw [ev_put_ne (by omega)]; exact f9 c' hc'
  · intro c' hc'; rw [ev_put_ne (by omega)]; exact f10 c' hc'
  · intro c' hc'; rw [ev_put_ne (by omega)]; exact f11 c' hc'
  · intro c' hc'; rw [ev_put_ne (by omega)]; exact f12 c' hc'
theorem hb_R.i2 {z : Nat × Nat} {sz dyn : Nat} {mu : Nat → Option ev_E} {G : hb_G} {n1 n2 c : Nat} {s : hb_S} {h : ev_H} (R : hb_R z sz dyn mu G n1 n2 s h) (hc : c < 3) (v : Int32) : hb_R z sz dyn mu G n1 n2 (tI s 2 c v) (ev_put h (sz + (6 + 7 * c)) (.inr (3, [.ref (sz + (3 + 7 * c)), .ref (sz + (7 + 7 * c)), .ref (sz + (8 + 7 * c)), .ref (sz + (9 + 7 * c)), .int v, .long (sJ s 0 c), .int (sI s 3 c)]))) := by
  have hL := hb_ls.fix (s' := (tI s 2 c v)) (x := (.inr (3, [.ref (sz + (3 + 7 * c)), .ref (sz + (7 + 7 * c)), .ref (sz + (8 + 7 * c)), .ref (sz + (9 + 7 * c)), .int v, .long (sJ s 0 c), .int (sI s 3 c)]))) R (r := 6 + 7 * c) (by omega) (fun j hj => by revert j; rcases (show c = 0 ∨ c = 1 ∨ c = 2 by omega) with rfl | rfl | rfl <;> decide) (fun j _ => rfl)
  obtain ⟨r1, r2, r3, r4, r5, r6, r7, ⟨f0, f1, f2, f3, f4, f5, f6, f7, f8, f9, f10, f11, f12⟩, r9⟩ := R
  refine ⟨r1.put (by omega) (by omega), r2, r3, r4, r5, r6, fun b h1 h2 => (ev_put_ne (by omega)).trans (r7 b h1 h2), ⟨?_, ?_, ?_, ?_, ?_, ?_, ?_, ?_, ?_, ?_, ?_, ?_, ?_⟩, hL⟩
  · rw [show sz = sz + 0 from rfl, ev_put_ne (by omega)]; exact f0
  · rw [ev_put_ne (by omega)]; exact f1
  · rw [ev_put_ne (by omega)]; exact f2
  · rw [ev_put_ne (by omega)]; exact f3
  · rw [ev_put_ne (by omega)]; exact f4
  · rw [ev_put_ne (by omega)]; exact f5
  · intro c' hc'; rw [ev_put_ne (by omega)]; exact f6 c' hc'
  · intro c' hc'
    by_cases e : c' = c
    · subst e; rw [ev_put_same]; simp [tI, sI, sJ, hb_u2]
    · rw [ev_put_ne (by omega), f7 c' hc']; simp [tI, sI, sJ, hb_u2, e]
  · intro c' hc'; rw [ev_put_ne (by omega)]; exact f8 c' hc'
  · intro c' hc'; rw [ev_put_ne (by omega)]; exact f9 c' hc'
  · intro c' hc'; rw [ev_put_ne (by omega)]; exact f10 c' hc'
  · intro c' hc'; rw [ev_put_ne (by omega)]; exact f11 c' hc'
  · intro c' hc'; rw [ev_put_ne (by omega)]; exact f12 c' hc'
theorem hb_R.i3 {z : Nat × Nat} {sz dyn : Nat} {mu : Nat → Option ev_E} {G : hb_G} {n1 n2 c : Nat} {s : hb_S} {h : ev_H} (R : hb_R z sz dyn mu G n1 n2 s h) (hc : c < 3) (v : Int32) : hb_R z sz dyn mu G n1 n2 (tI s 3 c v) (ev_put h (sz + (6 + 7 * c)) (.inr (3, [.ref (sz + (3 + 7 * c)), .ref (sz + (7 + 7 * c)), .ref (sz + (8 + 7 * c)), .ref (sz + (9 + 7 * c)), .int (sI s 2 c), .long (sJ s 0 c), .int v]))) := by
  have hL := hb_ls.fix (s' := (tI s 3 c v)) (x := (.inr (3, [.ref (sz + (3 + 7 * c)), .ref (sz + (7 + 7 * c)), .ref (sz + (8 + 7 * c)), .ref (sz + (9 + 7 * c)), .int (sI s 2 c), .long (sJ s 0 c), .int v]))) R (r := 6 + 7 * c) (by omega) (fun j hj => by revert j; rcases (show c = 0 ∨ c = 1 ∨ c = 2 by omega) with rfl | rfl | rfl <;> decide) (fun j _ => rfl)
  obtain ⟨r1, r2, r3, r4, r5, r6, r7, ⟨f0, f1, f2, f3, f4, f5, f6, f7, f8, f9, f10, f11, f12⟩, r9⟩ := R
  refine ⟨r1.put (by omega) (by omega), r2, r3, r4, r5, r6, fun b h1 h2 => (ev_put_ne (by omega)).trans (r7 b h1 h2), ⟨?_, ?_, ?_, ?_, ?_, ?_, ?_, ?_, ?_, ?_, ?_, ?_, ?_⟩, hL⟩
  · rw [show sz = sz + 0 from rfl, ev_put_ne (by omega)]; exact f0
  · rw [ev_put_ne (by omega)]; exact f1
  · rw [ev_put_ne (by omega)]; exact f2
  · rw [ev_put_ne (by omega)]; exact f3
  · rw [ev_put_ne (by omega)]; exact f4
  · rw [ev_put_ne (by omega)]; exact f5
  · intro c' hc'; rw [ev_put_ne (by omega)]; exact f6 c' hc'
  · intro c' hc'
    by_cases e : c' = c
    · subst e; rw [ev_put_same]; simp [tI, sI, sJ, hb_u2]
    · rw [ev_put_ne (by omega), f7 c' hc']; simp [tI, sI, sJ, hb_u2, e]
  · intro c' hc'; rw [ev_put_ne (by omega)]; exact f8 c' hc'
  · intro c' hc'; rw [ev_put_ne (by omega)]; exact f9 c' hc'
  · intro c' hc'; rw [ev_put_ne (by omega)]; exact f10 c' hc'
  · intro c' hc'; rw [ev_put_ne (by omega)]; exact f11 c' hc'
  · intro c' hc'; rw [ev_put_ne (by omega)]; exact f12 c' hc'
theorem hb_R.j0 {z : Nat × Nat} {sz dyn : Nat} {mu : Nat → Option ev_E} {G : hb_G} {n1 n2 c : Nat} {s : hb_S} {h : ev_H} (R : hb_R z sz dyn mu G n1 n2 s h) (hc : c < 3) (v : Int64) : hb_R z sz dyn mu G n1 n2 (tJ s 0 c v) (ev_put h (sz + (6 + 7 * c)) (.inr (3, [.ref (sz + (3 + 7 * c)), .ref (sz + (7 + 7 * c)), .ref (sz + (8 + 7 * c)), .ref (sz + (9 + 7 * c)), .int (sI s 2 c), .long v, .int (sI s 3 c)]))) := by
  have hL := hb_ls.fix (s' := (tJ s 0 c v)) (x := (.inr (3, [.ref (sz + (3 + 7 * c)), .ref (sz + (7 + 7 * c)), .ref (sz + (8 + 7 * c)), .ref (sz + (9 + 7 * c)), .int (sI s 2 c), .long v, .int (sI s 3 c)]))) R (r := 6 + 7 * c) (by omega) (fun j hj => by revert j; rcases (show c = 0 ∨ c = 1 ∨ c = 2 by omega) with rfl | rfl | rfl <;> decide) (fun j _ => rfl)
  obtain ⟨r1, r2, r3, r4, r5, r6, r7, ⟨f0, f1, f2, f3, f4, f5, f6, f7, f8, f9, f10, f11, f12⟩, r9⟩ := R
  refine ⟨r1.put (by omega) (by omega), r2, r3, r4, r5, r6, fun b h1 h2 => (ev_put_ne (by omega)).trans (r7 b h1 h2), ⟨?_, ?_, ?_, ?_, ?_, ?_, ?_, ?_, ?_, ?_, ?_, ?_, ?_⟩, hL⟩
  · rw [show sz = sz + 0 from rfl, ev_put_ne (by omega)]; exact f0
  · rw [ev_put_ne (by omega)]; exact f1
  · rw [ev_put_ne (by omega)]; exact f2
  · rw [ev_put_ne (by omega)]; exact f3
  · rw [ev_put_ne (by omega)]; exact f4
  · rw [ev_put_ne (by omega)]; exact f5
  · intro c' hc'; rw [ev_put_ne (by omega)]; exact f6 c' hc'
  · intro c' hc'
    by_cases e : c' = c
    · subst e; rw [ev_put_same]; simp [tJ, sI, sJ, hb_u2]
    · rw [ev_put_ne (by omega), f7 c' hc']; simp [tJ, sI, sJ, hb_u2, e]
  · intro c' hc'; rw [ev_put_ne (by omega)]; exact f8 c' hc'
  · intro c' hc'; rw [ev_put_ne (by omega)]; exact f9 c' hc'
  · intro c' hc'; rw [ev_put_ne (by omega)]; exact f10 c' hc'
  · intro c' hc'; rw [ev_put_ne (by omega)]; exact f11 c' hc'
  · intro c' hc'; rw [ev_put_ne (by omega)]; exact f12 c' hc'
theorem hb_R.i4 {z : Nat × Nat} {sz dyn : Nat} {mu : Nat → Option ev_E} {G : hb_G} {n1 n2 c : Nat} {s : hb_S} {h : ev_H} (R : hb_R z sz dyn mu G n1 n2 s h) (hc : c < 3) (v : Int32) : hb_R z sz dyn mu G n1 n2 (tI s 4 c v) (ev_put h (sz + (8 + 7 * c)) (.inr (4, [.int v]))) := by
  have hL := hb_ls.fix (s' := (tI s 4 c v)) (x := (.inr (4, [.int v]))) R (r := 8 + 7 * c) (by omega) (fun j hj => by revert j; rcases (show c = 0 ∨ c = 1 ∨ c = 2 by omega) with rfl | rfl | rfl <;> decide) (fun j _ => rfl)
  obtain ⟨r1, r2, r3, r4, r5, r6, r7, ⟨f0, f1, f2, f3, f4, f5, f6, f7, f8, f9, f10, f11, f12⟩, r9⟩ := R
  refine ⟨r1.put (by omega) (by omega), r2, r3, r4, r5, r6, fun b h1 h2 => (ev_put_ne (by omega)).trans (r7 b h1 h2), ⟨?_, ?_, ?_, ?_, ?_, ?_, ?_, ?_, ?_, ?_, ?_, ?_, ?_⟩, hL⟩
  · rw [show sz = sz + 0 from rfl, ev_put_ne (by omega)]; exact f0
  · rw [ev_put_ne (by omega)]; exact f1
  · rw [ev_put_ne (by omega)]; exact f2
  · rw [ev_put_ne (by omega)]; exact f3
  · rw [ev_put_ne (by omega)]; exact f4
  · rw [ev_put_ne (by omega)]; exact f5
  · intro c' hc'; rw [ev_put_ne (by omega)]; exact f6 c' hc'
  · intro c' hc'; rw [ev_put_ne (by omega)]; exact f7 c' hc'
  · intro c' hc'
    by_cases e : c' = c
    · subst e; rw [ev_put_same]; simp [tI, sI, sJ, hb_u2]
    · rw [ev_put_ne (by omega), f8 c' hc']; simp [tI, sI, sJ, hb_u2, e]
  · intro c' hc'; rw [ev_put_ne (by omega)]; exact f9 c' hc'
  · intro c' hc'; rw [ev_put_ne (by omega)]; exact f10 c' hc'
  · intro c' hc'; rw [ev_put_ne (by omega)]; exact f11 c' hc'
  · intro c' hc'; rw [ev_put_ne (by omega)]; exact f12 c' hc'
theorem hb_R.i14 {z : Nat × Nat} {sz dyn : Nat} {mu : Nat → Option ev_E} {G : hb_G} {n1 n2 : Nat} {s : hb_S} {h : ev_H} (R : hb_R z sz dyn mu G n1 n2 s h) (v : Int32) : hb_R z sz dyn mu G n1 n2 (tI s 14 0 v) (ev_put h (sz + (24)) (.inr (5, [.ref (sz + 1), .ref (sz + 25), .ref (sz + 26), .ref (sz + 27), .int v]))) := by
  have hL := hb_ls.fix (s' := (tI s 14 0 v)) (x := (.inr (5, [.ref (sz + 1), .ref (sz + 25), .ref (sz + 26), .ref (sz + 27), .int v]))) R (r := 24) (by omega) (fun j hj => by revert j; decide) (fun j _ => rfl)
  obtain ⟨r1, r2, r3, r4, r5, r6, r7, ⟨f0, f1, f2, f3, f4, f5, f6, f7, f8, f9, f10, f11, f12⟩, r9⟩ := R
  refine ⟨r1.put (by omega) (by omega), r2, r3, r4, r5, r6, fun b h1 h2 => (ev_put_ne (by omega)).trans (r7 b h1 h2), ⟨?_, ?_, ?_, ?_, ?_, ?_, ?_, ?_, ?_, ?_, ?_, ?_, ?_⟩, hL⟩
  · rw [show sz = sz + 0 from rfl, ev_put_ne (by omega)]; exact f0
  · rw [ev_put_ne (by omega)]; exact f1
  · rw [ev_put_ne (by omega)]; exact f2
  · rw [ev_put_same]; simp [tI, sI, sJ, hb_u2]
  · rw [ev_put_ne (by omega)]; exact f4
  · rw [ev_put_ne (by omega)]; exact f5
  · intro c' hc'; rw [ev_put_ne (by omega)]; exact f6 c' hc'
  · intro c' hc'; rw [ev_put_ne (by omega)]; exact f7 c' hc'
  · intro c' hc'; rw [ev_put_ne (by omega)]; exact f8 c' hc'
  · intro c' hc'; rw [ev_put_ne (by omega)]; exact f9 c' hc'
  · intro c' hc'; rw [ev_put_ne (by omega)]; exact f10 c' hc'
  · intro c' hc'; rw [ev_put_ne (by omega)]; exact f11 c' hc'
  · intro c' hc'; rw [ev_put_ne (by omega)]; exact f12 c' hc'
theorem hb_R.i5 {z : Nat × Nat} {sz dyn : Nat} {mu : Nat → Option ev_E} {G : hb_G} {n1 n2 c : Nat} {s : hb_S} {h : ev_H} (R : hb_R z sz dyn mu G n1 n2 s h) (hc : c < 3) (v : Int32) : hb_R z sz dyn mu G n1 n2 (tI s 5 c v) (ev_put h (sz + (28 + 6 * c)) (.inr (6, [.int v, .int (sI s 6 c), .int (sI s 7 c), .int (sI s 8 c), .long (sJ s 1 c), .int (sI s 9 c)]))) := by
  have hL := hb_ls.fix (s' := (tI s 5 c v)) (x := (.inr (6, [.int v, .int (sI s 6 c), .int (sI s 7 c), .int (sI s 8 c), .long (sJ s 1 c), .int (sI s 9 c)]))) R (r := 28 + 6 * c) (by omega) (fun j hj => by revert j; rcases (show c = 0 ∨ c = 1 ∨ c = 2 by omega) with rfl | rfl | rfl <;> decide) (fun j _ => rfl)
  obtain ⟨r1, r2, r3, r4, r5, r6, r7, ⟨f0, f1, f2, f3, f4, f5, f6, f7, f8, f9, f10, f11, f12⟩, r9⟩ := R
  refine ⟨r1.put (by omega) (by omega), r2, r3, r4, r5, r6, fun b h1 h2 => (ev_put_ne (by omega)).trans (r7 b h1 h2), ⟨?_, ?_, ?_, ?_, ?_, ?_, ?_, ?_, ?_, ?_, ?_, ?_, ?_⟩, hL⟩
  · rw [show sz = sz + 0 from rfl, ev_put_ne (by omega)]; exact f0
  · rw [ev_put_ne (by omega)]; exact f1
  · rw [ev_put_ne (by omega)]; exact f2
  · rw [ev_put_ne (by omega)]; exact f3
  · rw [ev_put_ne (by omega)]; exact f4
  · rw [ev_put_ne (by omega)]; exact f5
  · intro c' hc'; rw [ev_put_ne (by omega)]; exact f6 c' hc'
  · intro c' hc'; rw [ev_put_ne (by omega)]; exact f7 c' hc'
  · intro c' hc'; rw [ev_put_ne (by omega)]; exact f8 c' hc'
  · intro c' hc'; rw [ev_put_ne (by omega)]; exact f9 c' hc'
  · intro c' hc'
    by_cases e : c' = c
    · subst e; rw [ev_put_same]; simp [tI, sI, sJ, hb_u2]
    · rw [ev_put_ne (by omega), f10 c' hc']; simp [tI, sI, sJ, hb_u2, e]
  · intro c' hc'; rw [ev_put_ne (by omega)]; exact f11 c' hc'
  · intro c' hc'; rw [ev_put_ne (by omega)]; exact f12 c' hc'
theorem hb_R.i6 {z : Nat × Nat} {sz dyn : Nat} {mu : Nat → Option ev_E} {G : hb_G} {n1 n2 c : Nat} {s : hb_S} {h : ev_H} (R : hb_R z sz dyn mu G n1 n2 s h) (hc : c < 3) (v : Int32) : hb_R z sz dyn mu G n1 n2 (tI s 6 c v) (ev_put h (sz + (28 + 6 * c)) (.inr (6, [.int (sI s 5 c), .int v, .int (sI s 7 c), .int (sI s 8 c), .long (sJ s 1 c), .int (sI s 9 c)]))) := by
  have hL := hb_ls.fix (s' := (tI s 6 c v)) (x := (.inr (6, [.int (sI s 5 c), .int v, .int (sI s 7 c), .int (sI s 8 c), .long (sJ s 1 c), .int (sI s 9 c)]))) R (r := 28 + 6 * c) (by omega) (fun j hj => by revert j; rcases (show c = 0 ∨ c = 1 ∨ c = 2 by omega) with rfl | rfl | rfl <;> decide) (fun j _ => rfl)
  obtain ⟨r1, r2, r3, r4, r5, r6, r7, ⟨f0, f1, f2, f3, f4, f5, f6, f7, f8, f9, f10, f11, f12⟩, r9⟩ := R
  refine ⟨r1.put (by omega) (by omega), r2, r3, r4, r5, r6, fun b h1 h2 => (ev_put_ne (by omega)).trans (r7 b h1 h2), ⟨?_, ?_, ?_, ?_, ?_, ?_, ?_, ?_, ?_, ?_, ?_, ?_, ?_⟩, hL⟩
  · rw [show sz = sz + 0 from rfl, ev_put_ne (by omega)]; exact f0
  · rw [ev_put_ne (by omega)]; exact f1
  · rw [ev_put_ne (by omega)]; exact f2
  · rw [ev_put_ne (by omega)]; exact f3
  · rw [ev_put_ne (by omega)]; exact f4
  · rw [ev_put_ne (by omega)]; exact f5
  · intro c' hc'; rw [ev_put_ne (by omega)]; exact f6 c' hc'
  · intro c' hc'; rw [ev_put_ne (by omega)]; exact f7 c' hc'
  · intro c' hc'; rw [ev_put_ne (by omega)]; exact f8 c' hc'
  · intro c' hc'; rw [ev_put_ne (by omega)]; exact f9 c' hc'
  · intro c' hc'
    by_cases e : c' = c
    · subst e; rw [ev_put_same]; simp [tI, sI, sJ, hb_u2]
    · rw [ev_put_ne (by omega), f10 c' hc']; simp [tI, sI, sJ, hb_u2, e]
  · intro c' hc'; rw [ev_put_ne (by omega)]; exact f11 c' hc'
  · intro c' hc'; rw [ev_put_ne (by omega)]; exact f12 c' hc'
theorem hb_R.i7 {z : Nat × Nat} {sz dyn : Nat} {mu : Nat → Option ev_E} {G : hb_G} {n1 n2 c : Nat} {s : hb_S} {h : ev_H} (R : hb_R z sz dyn mu G n1 n2 s h) (hc : c < 3) (v : Int32) : hb_R z sz dyn mu G n1 n2 (tI s 7 c v) (ev_put h (sz + (28 + 6 * c)) (.inr (6, [.int (sI s 5 c), .int (sI s 6 c), .int v, .int (sI s 8 c), .long (sJ s 1 c), .int (sI s 9 c)]))) := by
  have hL := hb_ls.fix (s' := (tI s 7 c v)) (x := (.inr (6, [.int (sI s 5 c), .int (sI s 6 c), .int v, .int (sI s 8 c), .long (sJ s 1 c), .int (sI s 9 c)]))) R (r := 28 + 6 * c) (by omega) (fun j hj => by revert j; rcases (show c = 0 ∨ c = 1 ∨ c = 2 by omega) with rfl | rfl | rfl <;> decide) (fun j _ => rfl)
  obtain ⟨r1, r2, r3, r4, r5, r6, r7, ⟨f0, f1, f2, f3, f4, f5, f6, f7, f8, f9, f10, f11, f12⟩, r9⟩ := R
  refine ⟨r1.put (by omega) (by omega), r2, r3, r4, r5, r6, fun b h1 h2 => (ev_put_ne (by omega)).trans (r7 b h1 h2), ⟨?_, ?_, ?_, ?_, ?_, ?_, ?_, ?_, ?_, ?_, ?_, ?_, ?_⟩, hL⟩
  · rw [show sz = sz + 0 from rfl, ev_put_ne (by omega)]; exact f0
  · rw [ev_put_ne (by omega)]; exact f1
  · rw [ev_put_ne (by omega)]; exact f2
  · rw [ev_put_ne (by omega)]; exact f3
  · rw [ev_put_ne (by omega)]; exact f4
  · rw [ev_put_ne (by omega)]; exact f5
  · intro c' hc'; rw [ev_put_ne (by omega)]; exact f6 c' hc'
  · intro c' hc'; rw [ev_put_ne (by omega)]; exact f7 c' hc'
  · intro c' hc'; rw [ev_put_ne (by omega)]; exact f8 c' hc'
  · intro c' hc'; rw [ev_put_ne (by omega)]; exact f9 c' hc'
  · intro c' hc'
    by_cases e : c' = c
    · subst e; rw [ev_put_same]; simp [tI, sI, sJ, hb_u2]
    · rw [ev_put_ne (by omega), f10 c' hc']; simp [tI, sI, sJ, hb_u2, e]
  · intro c' hc'; rw [ev_put_ne (by omega)]; exact f11 c' hc'
  · intro c' hc'; rw [ev_put_ne (by omega)]; exact f12 c' hc'
theorem hb_R.i8 {z : Nat × Nat} {sz dyn : Nat} {mu : Nat → Option ev_E} {G : hb_G} {n1 n2 c : Nat} {s : hb_S} {h : ev_H} (R : hb_R z sz dyn mu G n1 n2 s h) (hc : c < 3) (v : Int32) : hb_R z sz dyn mu G n1 n2 (tI s 8 c v) (ev_put h (sz + (28 + 6 * c)) (.inr (6, [.int (sI s 5 c), .int (sI s 6 c), .int (sI s 7 c), .int v, .long (sJ s 1 c), .int (sI s 9 c)]))) := by
  have hL := hb_ls.fix (s' := (tI s 8 c v)) (x := (.inr (6, [.int (sI s 5 c), .int (sI s 6 c), .int (sI s 7 c), .int v, .long (sJ s 1 c), .int (sI s 9 c)]))) R (r := 28 + 6 * c) (by omega) (fun j hj => by revert j; rcases (show c = 0 ∨ c = 1 ∨ c = 2 by omega) with rfl | rfl | rfl <;> decide) (fun j _ => rfl)
  obtain ⟨r1, r2, r3, r4, r5, r6, r7, ⟨f0, f1, f2, f3, f4, f5, f6, f7, f8, f9, f10, f11, f12⟩, r9⟩ := R
  refine ⟨r1.put (by omega) (by omega), r2, r3, r4, r5, r6, fun b h1 h2 => (ev_put_ne (by omega)).trans (r7 b h1 h2), ⟨?_, ?_, ?_, ?_, ?_, ?_, ?_, ?_, ?_, ?_, ?_, ?_, ?_⟩, hL⟩
  · rw [show sz = sz + 0 from rfl, ev_put_ne (by omega)]; exact f0
  · rw [ev_put_ne (by omega)]; exact f1
  · rw [ev_put_ne (by omega)]; exact f2
  · rw [ev_put_ne (by omega)]; exact f3
  · rw [ev_put_ne (by omega)]; exact f4
  · rw [ev_put_ne (by omega)]; exact f5
  · intro c' hc'; rw [ev_put_ne (by omega)]; exact f6 c' hc'
  · intro c' hc'; rw [ev_put_ne (by omega)]; exact f7 c' hc'
  · intro c' hc'; rw [ev_put_ne (by omega)]; exact f8 c' hc'
  · intro c' hc'; rw [ev_put_ne (by omega)]; exact f9 c' hc'
  · intro c' hc'
    by_cases e : c' = c
    · subst e; rw [ev_put_same]; simp [tI, sI, sJ, hb_u2]
    · rw [ev_put_ne (by omega), f10 c' hc']; simp [tI, sI, sJ, hb_u2, e]
  · intro c' hc'; rw [ev_put_ne (by omega)]; exact f11 c' hc'
  · intro c' hc'; rw [ev_put_ne (by omega)]; exact f12 c' hc'
theorem hb_R.i9 {z : Nat × Nat} {sz dyn : Nat} {mu : Nat → Option ev_E} {G : hb_G} {n1 n2 c : Nat} {s : hb_S} {h : ev_H} (R : hb_R z sz dyn mu G n1 n2 s h) (hc : c < 3) (v : Int32) : hb_R z sz dyn mu G n1 n2 (tI s 9 c v) (ev_put h (sz + (28 + 6 * c)) (.inr (6, [.int (sI s 5 c), .int (sI s 6 c), .int (sI s 7 c), .int (sI s 8 c), .long (sJ s 1 c), .int v]))) := by
  have hL := hb_ls.fix (s' := (tI s 9 c v)) (x := (.inr (6, [.int (sI s 5 c), .int (sI s 6 c), .int (sI s 7 c), .int (sI s 8 c), .long (sJ s 1 c), .int v]))) R (r := 28 + 6 * c) (by omega) (fun j hj => by revert j; rcases (show c = 0 ∨ c = 1 ∨ c = 2 by omega) with rfl | rfl | rfl <;> decide) (fun j _ => rfl)
  obtain ⟨r1, r2, r3, r4, r5, r6, r7, ⟨f0, f1, f2, f3, f4, f5, f6, f7, f8, f9, f10, f11, f12⟩, r9⟩ := R
  refine ⟨r1.put (by omega) (by omega), r2, r3, r4, r5, r6, fun b h1 h2 => (ev_put_ne (by omega)).trans (r7 b h1 h2), ⟨?_, ?_, ?_, ?_, ?_, ?_, ?_, ?_, ?_, ?_, ?_, ?_, ?_⟩, hL⟩
  · rw [show sz = sz + 0 from rfl, ev_put_ne (by omega)]; exact f0
  · rw [ev_put_ne (by omega)]; exact f1
  · rw [ev_put_ne (by omega)]; exact f2
  · rw [ev_put_ne (by omega)]; exact f3
  · rw [ev_put_ne (by omega)]; exact f4
  · rw [ev_put_ne (by omega)]; exact f5
  · intro c' hc'; rw [ev_put_ne (by omega)]; exact f6 c' hc'
  · intro c' hc'; rw [ev_put_ne (by omega)]; exact f7 c' hc'
  · intro c' hc'; rw [ev_put_ne (by omega)]; exact f8 c' hc'
  · intro c' hc'; rw [ev_put_ne (by omega)]; exact f9 c' hc'
  · intro c' hc'
    by_cases e : c' = c
    · subst e; rw [ev_put_same]; simp [tI, sI, sJ, hb_u2]
    · rw [ev_put_ne (by omega), f10 c' hc']; simp [tI, sI, sJ, hb_u2, e]
  · intro c' hc'; rw [ev_put_ne (by omega)]; exact f11 c' hc'
  · intro c' hc'; rw [ev_put_ne (by omega)]; exact f12 c' hc'
theorem hb_R.j1 {z : Nat × Nat} {sz dyn : Nat} {mu : Nat → Option ev_E} {G : hb_G} {n1 n2 c : Nat} {s : hb_S} {h : ev_H} (R : hb_R z sz dyn mu G n1 n2 s h) (hc : c < 3) (v : Int64) : hb_R z sz dyn mu G n1 n2 (tJ s 1 c v) (ev_put h (sz + (28 + 6 * c)) (.inr (6, [.int (sI s 5 c), .int (sI s 6 c), .int (sI s 7 c), .int (sI s 8 c), .long v, .int (sI s 9 c)]))) := by
  have hL := hb_ls.fix (s' := (tJ s 1 c v)) (x := (.inr (6, [.int (sI s 5 c), .int (sI s 6 c), .int (sI s 7 c), .int (sI s 8 c), .long v, .int (sI s 9 c)]))) R (r := 28 + 6 * c) (by omega) (fun j hj => by revert j; rcases (show c = 0 ∨ c = 1 ∨ c = 2 by omega) with rfl | rfl | rfl <;> decide) (fun j _ => rfl)
  obtain ⟨r1, r2, r3, r4, r5, r6, r7, ⟨f0, f1, f2, f3, f4, f5, f6, f7, f8, f9, f10, f11, f12⟩, r9⟩ := R
  refine ⟨r1.put (by omega) (by omega), r2, r3, r4, r5, r6, fun b h1 h2 => (ev_put_ne (by omega)).trans (r7 b h1 h2), ⟨?_, ?_, ?_, ?_, ?_, ?_, ?_, ?_, ?_, ?_, ?_, ?_, ?_⟩, hL⟩
  · rw [show sz = sz + 0 from rfl, ev_put_ne (by omega)]; exact f0
  · rw [ev_put_ne (by omega)]; exact f1
  · rw [ev_put_ne (by omega)]; exact f2
  · rw [ev_put_ne (by omega)]; exact f3
  · rw [ev_put_ne (by omega)]; exact f4
  · rw [ev_put_ne (by omega)]; exact f5
  · intro c' hc'; rw [ev_put_ne (by omega)]; exact f6 c' hc'
  · intro c' hc'; rw [ev_put_ne (by omega)]; exact f7 c' hc'
  · intro c' hc'; rw [ev_put_ne (by omega)]; exact f8 c' hc'
  · intro c' hc'; rw [ev_put_ne (by omega)]; exact f9 c' hc'
  · intro c' hc'
    by_cases e : c' = c
    · subst e; rw [ev_put_same]; simp [tJ, sI, sJ, hb_u2]
    · rw [ev_put_ne (by omega), f10 c' hc']; simp [tJ, sI, sJ, hb_u2, e]
  · intro c' hc'; rw [ev_put_ne (by omega)]; exact f11 c' hc'
  · intro c' hc'; rw [ev_put_ne (by omega)]; exact f12 c' hc'
theorem hb_R.i10 {z : Nat × Nat} {sz dyn : Nat} {mu : Nat → Option ev_E} {G : hb_G} {n1 n2 c : Nat} {s : hb_S} {h : ev_H} (R : hb_R z sz dyn mu G n1 n2 s h) (hc : c < 3) (v : Int32) : hb_R z sz dyn mu G n1 n2 (tI s 10 c v) (ev_put h (sz + (29 + 6 * c)) (.inr (7, [.ref (sz + (30 + 6 * c)), .ref (sz + (31 + 6 * c)), .ref (sz + (32 + 6 * c)), .ref (sz + (33 + 6 * c)), .int v, .int (sI s 11 c), .int (sI s 12 c)]))) := by
  have hL := hb_ls.fix (s' := (tI s 10 c v)) (x := (.inr (7, [.ref (sz + (30 + 6 * c)), .ref (sz + (31 + 6 * c)), .ref (sz + (32 + 6 * c)), .ref (sz + (33 + 6 * c)), .int v, .int (sI s 11 c), .int (sI s 12 c)]))) R (r := 29 + 6 * c) (by omega) (fun j hj => by revert j; rcases (show c = 0 ∨ c = 1 ∨ c = 2 by omega) with rfl | rfl | rfl <;> decide) (fun j _ => rfl)
  obtain ⟨r1, r2, r3, r4, r5, r6, r7, ⟨f0, f1, f2, f3, f4, f5, f6, f7, f8, f9, f10, f11, f12⟩, r9⟩ := R
  refine ⟨r1.put (by omega) (by omega), r2, r3, r4, r5, r6, fun b h1 h2 => (ev_put_ne (by omega)).trans (r7 b h1 h2), ⟨?_, ?_, ?_, ?_, ?_, ?_, ?_, ?_, ?_, ?_, ?_, ?_, ?_⟩, hL⟩
  · rw [show sz = sz + 0 from rfl, ev_put_ne (by omega)]; exact f0
  · rw [ev_put_ne (by omega)]; exact f1
  · rw [ev_put_ne (by omega)]; exact f2
  · rw [ev_put_ne (by omega)]; exact f3
  · rw [ev_put_ne (by omega)]; exact f4
  · rw [ev_put_ne (by omega)]; exact f5
  · intro c' hc'; rw [ev_put_ne (by omega)]; exact f6 c' hc'
  · intro c' hc'; rw [ev_put_ne (by omega)]; exact f7 c' hc'
  · intro c' hc'; rw [ev_put_ne (by omega)]; exact f8 c' hc'
  · intro c' hc'; rw [ev_put_ne (by omega)]; exact f9 c' hc'
  · intro c' hc'; rw [ev_put_ne (by omega)]; exact f10 c' hc'
  · intro c' hc'
    by_cases e : c' = c
    · subst e; rw [ev_put_same]; simp [tI, sI, sJ, hb_u2]
    · rw [ev_put_ne (by omega), f11 c' hc']; simp [tI, sI, sJ, hb_u2, e]
  · intro c' hc'; rw [ev_put_ne (by omega)]; exact f12 c' hc'
theorem hb_R.i11 {z : Nat × Nat} {sz dyn : Nat} {mu : Nat → Option ev_E} {G : hb_G} {n1 n2 c : Nat} {s : hb_S} {h : ev_H} (R : hb_R z sz dyn mu G n1 n2 s h) (hc : c < 3) (v : Int32) : hb_R z sz dyn mu G n1 n2 (tI s 11 c v) (ev_put h (sz + (29 + 6 * c)) (.inr (7, [.ref (sz + (30 + 6 * c)), .ref (sz + (31 + 6 * c)), .ref (sz + (32 + 6 * c)), .ref (sz + (33 + 6 * c)), .int (sI s 10 c), .int v, .int (sI s 12 c)]))) := by
  have hL := hb_ls.fix (s' := (tI s 11 c v)) (x := (.inr (7, [.ref (sz + (30 + 6 * c)), .ref (sz + (31 + 6 * c)), .ref (sz + (32 + 6 * c)), .ref (sz + (33 + 6 * c)), .int (sI s 10 c), .int v, .int (sI s 12 c)]))) R (r := 29 + 6 * c) (by omega) (fun j hj => by revert j; rcases (show c = 0 ∨ c = 1 ∨ c = 2 by omega) with rfl | rfl | rfl <;> decide) (fun j _ => rfl)
  obtain ⟨r1, r2, r3, r4, r5, r6, r7, ⟨f0, f1, f2, f3, f4, f5, f6, f7, f8, f9, f10, f11, f12⟩, r9⟩ := R
  refine ⟨r1.put (by omega) (by omega), r2, r3, r4, r5, r6, fun b h1 h2 => (ev_put_ne (by omega)).trans (r7 b h1 h2), ⟨?_, ?_, ?_, ?_, ?_, ?_, ?_, ?_, ?_, ?_, ?_, ?_, ?_⟩, hL⟩
  · rw [show sz = sz + 0 from rfl, ev_put_ne (by omega)]; exact f0
  · rw [ev_put_ne (by omega)]; exact f1
  · rw [ev_put_ne (by omega)]; exact f2
  · rw [ev_put_ne (by omega)]; exact f3
  · rw [ev_put_ne (by omega)]; exact f4
  · rw [ev_put_ne (by omega)]; exact f5
  · intro c' hc'; rw [ev_put_ne (by omega)]; exact f6 c' hc'
  · intro c' hc'; rw [ev_put_ne (by omega)]; exact f7 c' hc'
  · intro c' hc'; rw [ev_put_ne (by omega)]; exact f8 c' hc'
  · intro c' hc'; rw [ev_put_ne (by omega)]; exact f9 c' hc'
  · intro c' hc'; rw [ev_put_ne (by omega)]; exact f10 c' hc'
  · intro c' hc'
    by_cases e : c' = c
    · subst e; rw [ev_put_same]; simp [tI, sI, sJ, hb_u2]
    · rw [ev_put_ne (by omega), f11 c' hc']; simp [tI, sI, sJ, hb_u2, e]
  · intro c' hc'; rw [ev_put_ne (by omega)]; exact f12 c' hc'
theorem hb_R.i12 {z : Nat × Nat} {sz dyn : Nat} {mu : Nat → Option ev_E} {G : hb_G} {n1 n2 c : Nat} {s : hb_S} {h : ev_H} (R : hb_R z sz dyn mu G n1 n2 s h) (hc : c < 3) (v : Int32) : hb_R z sz dyn mu G n1 n2 (tI s 12 c v) (ev_put h (sz + (29 + 6 * c)) (.inr (7, [.ref (sz + (30 + 6 * c)), .ref (sz + (31 + 6 * c)), .ref (sz + (32 + 6 * c)), .ref (sz + (33 + 6 * c)), .int (sI s 10 c), .int (sI s 11 c), .int v]))) := by
  have hL := hb_ls.fix (s' := (tI s 12 c v)) (x := (.inr (7, [.ref (sz + (30 + 6 * c)), .ref (sz + (31 + 6 * c)), .ref (sz + (32 + 6 * c)), .ref (sz + (33 + 6 * c)), .int (sI s 10 c), .int (sI s 11 c), .int v]))) R (r := 29 + 6 * c) (by omega) (fun j hj => by revert j; rcases (show c = 0 ∨ c = 1 ∨ c = 2 by omega) with rfl | rfl | rfl <;> decide) (fun j _ => rfl)
  obtain ⟨r1, r2, r3, r4, r5, r6, r7, ⟨f0, f1, f2, f3, f4, f5, f6, f7, f8, f9, f10, f11, f12⟩, r9⟩ := R
  refine ⟨r1.put (by omega) (by omega), r2, r3, r4, r5, r6, fun b h1 h2 => (ev_put_ne (by omega)).trans (r7 b h1 h2), ⟨?_, ?_, ?_, ?_, ?_, ?_, ?_, ?_, ?_, ?_, ?_, ?_, ?_⟩, hL⟩
  · rw [show sz = sz + 0 from rfl, ev_put_ne (by omega)]; exact f0
  · rw [ev_put_ne (by omega)]; exact f1
  · rw [ev_put_ne (by omega)]; exact f2
  · rw [ev_put_ne (by omega)]; exact f3
  · rw [ev_put_ne (by omega)]; exact f4
  · rw [ev_put_ne (by omega)]; exact f5
  · intro c' hc'; rw [ev_put_ne (by omega)]; exact f6 c' hc'
  · intro c' hc'; rw [ev_put_ne (by omega)]; exact f7 c' hc'
  · intro c' hc'; rw [ev_put_ne (by omega)]; exact f8 c' hc'
  · intro c' hc'; rw [ev_put_ne (by omega)]; exact f9 c' hc'
  · intro c' hc'; rw [ev_put_ne (by omega)]; exact f10 c' hc'
  · intro c' hc'
    by_cases e : c' = c
    · subst e; rw [ev_put_same]; simp [tI, sI, sJ, hb_u2]
    · rw [ev_put_ne (by omega), f11 c' hc']; simp [tI, sI, sJ, hb_u2, e]
  · intro c' hc'; rw [ev_put_ne (by omega)]; exact f12 c' hc'
theorem hb_R.i13 {z : Nat × Nat} {sz dyn : Nat} {mu : Nat → Option ev_E} {G : hb_G} {n1 n2 c : Nat} {s : hb_S} {h : ev_H} (R : hb_R z sz dyn mu G n1 n2 s h) (hc : c < 3) (v : Int32) : hb_R z sz dyn mu G n1 n2 (tI s 13 c v) (ev_put h (sz + (33 + 6 * c)) (.inr (4, [.int v]))) := by
  have hL := hb_ls.fix (s' := (tI s 13 c v)) (x := (.inr (4, [.int v]))) R (r := 33 + 6 * c) (by omega) (fun j hj => by revert j; rcases (show c = 0 ∨ c = 1 ∨ c = 2 by omega) with rfl | rfl | rfl <;> decide) (fun j _ => rfl)
  obtain ⟨r1, r2, r3, r4, r5, r6, r7, ⟨f0, f1, f2, f3, f4, f5, f6, f7, f8, f9, f10, f11, f12⟩, r9⟩ := R
  refine ⟨r1.put (by omega) (by omega), r2, r3, r4, r5, r6, fun b h1 h2 => (ev_put_ne (by omega)).trans (r7 b h1 h2), ⟨?_, ?_, ?_, ?_, ?_, ?_, ?_, ?_, ?_, ?_, ?_, ?_, ?_⟩, hL⟩
  · rw [show sz = sz + 0 from rfl, ev_put_ne (by omega)]; exact f0
  · rw [ev_put_ne (by omega)]; exact f1
  · rw [ev_put_ne (by omega)]; exact f2
  · rw [ev_put_ne (by omega)]; exact f3
  · rw [ev_put_ne (by omega)]; exact f4
  · rw [ev_put_ne (by omega)]; exact f5
  · intro c' hc'; rw [ev_put_ne (by omega)]; exact f6 c' hc'
  · intro c' hc'; rw [ev_put_ne (by omega)]; exact f7 c' hc'
  · intro c' hc'; rw [ev_put_ne (by omega)]; exact f8 c' hc'
  · intro c' hc'; rw [ev_put_ne (by omega)]; exact f9 c' hc'
  · intro c' hc'; rw [ev_put_ne (by omega)]; exact f10 c' hc'
  · intro c' hc'; rw [ev_put_ne (by omega)]; exact f11 c' hc'
  · intro c' hc'
    by_cases e : c' = c
    · subst e; rw [ev_put_same]; simp [tI, sI, sJ, hb_u2]
    · rw [ev_put_ne (by omega), f12 c' hc']; simp [tI, sI, sJ, hb_u2, e]
