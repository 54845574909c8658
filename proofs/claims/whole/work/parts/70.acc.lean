/-! The hub's fixed objects as they are read and written; typed lists (laid by wip/whole/p70.py). -/
theorem hb_R.up {z : Nat × Nat} {sz dyn : Nat} {mu : Nat → Option ev_E} {G : hb_G} {n1 n2 m1 m2 : Nat} {s : hb_S} {h : ev_H} (R : hb_R z sz dyn mu G n1 n2 s h) (a : n1 ≤ m1) (b : n2 ≤ m2) : hb_R z sz dyn mu G m1 m2 s h := by
  obtain ⟨r1, r2, r3, r4, r5, r6, r7, r8, r9⟩ := R
  exact ⟨r1, r2, r3, r4, Nat.le_trans r5 a, Nat.le_trans r6 b, r7, r8, r9⟩
def pk_at (dyn : Nat) (G : hb_G) (h : ev_H) (a : Nat) (p : hb_Pk) : Prop := h.2.2 a = some (.inr (8, hb_pkF p)) ∧ G.1 a = 0 ∧ dyn ≤ a
def ms_at (dyn : Nat) (G : hb_G) (h : ev_H) (a : Nat) (m : hb_Ms) : Prop := h.2.2 a = some (.inr (9, hb_msF m)) ∧ G.1 a = 0 ∧ dyn ≤ a
theorem hb_ro_c : ∀ c, c < 3 → hb_ro (2 * c) = 4 + 7 * c ∧ hb_ro (2 * c + 1) = 5 + 7 * c ∧ hb_ro (hb_pj c) = 7 + 7 * c ∧ hb_ro (9 + c) = 30 + 6 * c ∧ hb_ro (hb_mj c) = 31 + 6 * c ∧ hb_ro (hb_pj (3 + c)) = 32 + 6 * c := by decide
section AC
variable {z : Nat × Nat} {sz dyn : Nat} {mu : Nat → Option ev_E} {G : hb_G} {n1 n2 c : Nat} {s : hb_S} {h : ev_H}
theorem hb_R.fx (R : hb_R z sz dyn mu G n1 n2 s h) : hb_fx sz s h := R.2.2.2.2.2.2.2.1
theorem hb_R.o0 (R : hb_R z sz dyn mu G n1 n2 s h) : h.2.2 sz = some (.inr (0, [.ref (sz + 1), .ref (sz + 2), .ref (sz + 24)])) := R.fx.1
theorem hb_R.o5 (R : hb_R z sz dyn mu G n1 n2 s h) : h.2.2 (sz + 24) = some (.inr (5, [.ref (sz + 1), .ref (sz + 25), .ref (sz + 26), .ref (sz + hb_ro (hb_mj 3)), .int (sI s 14 0)])) := R.fx.2.2.2.1
theorem hb_R.o1 (R : hb_R z sz dyn mu G n1 n2 s h) (hc : c < 3) : h.2.2 (sz + (3 + 7 * c)) = some (.inr (1, [.ref (sz + hb_ro (2 * c)), .ref (sz + hb_ro (2 * c + 1)), .int (sI s 0 c), .int (sI s 1 c)])) := by
  obtain ⟨e1, e2, -⟩ := hb_ro_c c hc; rw [e1, e2]; exact R.fx.2.2.2.2.2.2.1 c hc
theorem hb_R.o3 (R : hb_R z sz dyn mu G n1 n2 s h) (hc : c < 3) : h.2.2 (sz + (6 + 7 * c)) = some (.inr (3, [.ref (sz + (3 + 7 * c)), .ref (sz + hb_ro (hb_pj c)), .ref (sz + (8 + 7 * c)), .ref (sz + (9 + 7 * c)), .int (sI s 2 c), .long (sJ s 0 c), .int (sI s 3 c)])) := by
  obtain ⟨-, -, e1, -⟩ := hb_ro_c c hc; rw [e1]; exact R.fx.2.2.2.2.2.2.2.1 c hc
theorem hb_R.o4 (R : hb_R z sz dyn mu G n1 n2 s h) (hc : c < 3) : h.2.2 (sz + (8 + 7 * c)) = some (.inr (4, [.int (sI s 4 c)])) := R.fx.2.2.2.2.2.2.2.2.1 c hc
theorem hb_R.ox (R : hb_R z sz dyn mu G n1 n2 s h) (hc : c < 3) : h.2.2 (sz + (9 + 7 * c)) = some (.inl (0, 100, .inl (sX s c))) := R.fx.2.2.2.2.2.2.2.2.2.1 c hc
theorem hb_R.o6 (R : hb_R z sz dyn mu G n1 n2 s h) (hc : c < 3) : h.2.2 (sz + (28 + 6 * c)) = some (.inr (6, [.int (sI s 5 c), .int (sI s 6 c), .int (sI s 7 c), .int (sI s 8 c), .long (sJ s 1 c), .int (sI s 9 c)])) := R.fx.2.2.2.2.2.2.2.2.2.2.1 c hc
theorem hb_R.o7 (R : hb_R z sz dyn mu G n1 n2 s h) (hc : c < 3) : h.2.2 (sz + (29 + 6 * c)) = some (.inr (7, [.ref (sz + hb_ro (9 + c)), .ref (sz + hb_ro (hb_mj c)), .ref (sz + hb_ro (hb_pj (3 + c))), .ref (sz + (33 + 6 * c)), .int (sI s 10 c), .int (sI s 11 c), .int (sI s 12 c)])) := by
  obtain ⟨-, -, -, e1, e2, e3⟩ := hb_ro_c c hc; rw [e1, e2, e3]; exact R.fx.2.2.2.2.2.2.2.2.2.2.2.1 c hc
theorem hb_R.o4s (R : hb_R z sz dyn mu G n1 n2 s h) (hc : c < 3) : h.2.2 (sz + (33 + 6 * c)) = some (.inr (4, [.int (sI s 13 c)])) := R.fx.2.2.2.2.2.2.2.2.2.2.2.2 c hc
theorem hb_R.lo {j : Nat} (R : hb_R z sz dyn mu G n1 n2 s h) (hj : j < 19) : h.2.2 (sz + hb_ro j) = some (.inr (2, (R.lobj hj).choose)) := (R.lobj hj).choose_spec
theorem hb_E.pk {G' : hb_G} {h' : ev_H} {a : Nat} {p : hb_Pk} (R : hb_R z sz dyn mu G n1 n2 s h) (E : hb_E dyn G h G' h') (H : pk_at dyn G h a p) : pk_at dyn G' h' a p := by
  obtain ⟨q1, q2, q3⟩ := H
  obtain ⟨e1, e2⟩ := E.2 a q3 (R.1.1 a _ q1) q2
  exact ⟨e2.trans q1, e1, q3⟩
theorem hb_E.ms {G' : hb_G} {h' : ev_H} {a : Nat} {p : hb_Ms} (R : hb_R z sz dyn mu G n1 n2 s h) (E : hb_E dyn G h G' h') (H : ms_at dyn G h a p) : ms_at dyn G' h' a p := by
  obtain ⟨q1, q2, q3⟩ := H
  obtain ⟨e1, e2⟩ := E.2 a q3 (R.1.1 a _ q1) q2
  exact ⟨e2.trans q1, e1, q3⟩
theorem pk_at.el {j a : Nat} {p : hb_Pk} (H : pk_at dyn G h a p) : hb_el G.1 dyn j h a (ne p) := ⟨H.2.2, H.1, H.2.1⟩
theorem ms_at.el {j a : Nat} {p : hb_Ms} (H : ms_at dyn G h a p) : hb_el G.1 dyn j h a (me p) := ⟨H.2.2, H.1, H.2.1⟩
end AC
theorem hb_E.fix {z : Nat × Nat} {sz dyn : Nat} {mu : Nat → Option ev_E} {G : hb_G} {n1 n2 r : Nat} {s : hb_S} {h : ev_H} {x : ev_E} (R : hb_R z sz dyn mu G n1 n2 s h) (hr : r < 46) : hb_E dyn G h G (ev_put h (sz + r) x) := by
  have := R.2.2.1
  exact ⟨Nat.le_refl _, fun b hb _ h0 => ⟨h0, ev_put_ne (by omega)⟩⟩
section AR
variable {z : Nat × Nat} {sz dyn : Nat} {mu : Nat → Option ev_E} {G : hb_G} {n1 n2 c : Nat} {s : hb_S} {h : ev_H} {C : ev_C} {pc nx : Nat} {L : ev_L} {r : List Value} {Q : ev_O → Prop}
theorem ev_W.lk (R : hb_R z sz dyn mu G n1 n2 s h) (hc : c < 3) (hf : ev_find C pc = some (ev_fn (ev_aaldR nx))) (k : ev_W C (nx, L, .ref (sz + (3 + 7 * c)) :: r, h) Q) : ev_W C (pc, L, .int (nI c) :: .ref (sz + 1) :: r, h) Q := by
  obtain ⟨f, h1, h2⟩ := R.fx.2.1
  refine ev_W.aaldN hf h1 (by decide) rfl hc (by decide) ?_
  rw [h2 c hc]; exact k
theorem ev_W.ck (R : hb_R z sz dyn mu G n1 n2 s h) (hc : c < 3) (hf : ev_find C pc = some (ev_fn (ev_aaldR nx))) (k : ev_W C (nx, L, .ref (sz + (6 + 7 * c)) :: r, h) Q) : ev_W C (pc, L, .int (nI c) :: .ref (sz + 2) :: r, h) Q := by
  obtain ⟨f, h1, h2⟩ := R.fx.2.2.1
  refine ev_W.aaldN hf h1 (by decide) rfl hc (by decide) ?_
  rw [h2 c hc]; exact k
theorem ev_W.nk (R : hb_R z sz dyn mu G n1 n2 s h) (hc : c < 3) (hf : ev_find C pc = some (ev_fn (ev_aaldR nx))) (k : ev_W C (nx, L, .ref (sz + (28 + 6 * c)) :: r, h) Q) : ev_W C (pc, L, .int (nI c) :: .ref (sz + 25) :: r, h) Q := by
  obtain ⟨f, h1, h2⟩ := R.fx.2.2.2.2.1
  refine ev_W.aaldN hf h1 (by decide) rfl hc (by decide) ?_
  rw [h2 c hc]; exact k
theorem ev_W.sk (R : hb_R z sz dyn mu G n1 n2 s h) (hc : c < 3) (hf : ev_find C pc = some (ev_fn (ev_aaldR nx))) (k : ev_W C (nx, L, .ref (sz + (29 + 6 * c)) :: r, h) Q) : ev_W C (pc, L, .int (nI c) :: .ref (sz + 26) :: r, h) Q := by
  obtain ⟨f, h1, h2⟩ := R.fx.2.2.2.2.2.1
  refine ev_W.aaldN hf h1 (by decide) rfl hc (by decide) ?_
  rw [h2 c hc]; exact k
theorem ev_W.w0 {v : Int32} (R : hb_R z sz dyn mu G n1 n2 s h) (hc : c < 3) (hf : ev_find C pc = some (ev_fn (ev_putf 1 2 .int nx))) (k : ∀ h', hb_R z sz dyn mu G n1 n2 (tI s 0 c v) h' → hb_E dyn G h G h' → ev_W C (nx, L, r, h') Q) : ev_W C (pc, L, .int v :: .ref (sz + (3 + 7 * c)) :: r, h) Q := by
  refine ev_W.putf hf (R.fx.2.2.2.2.2.2.1 c hc) rfl rfl rfl ?_
  exact k _ (R.i0 hc v) (hb_E.fix R (by omega))
theorem ev_W.w1 {v : Int32} (R : hb_R z sz dyn mu G n1 n2 s h) (hc : c < 3) (hb : v = 0 ∨ v = 1) (hf : ev_find C pc = some (ev_fn (ev_putf 1 3 .boolean nx))) (k : ∀ h', hb_R z sz dyn mu G n1 n2 (tI s 1 c v) h' → hb_E dyn G h G h' → ev_W C (nx, L, r, h') Q) : ev_W C (pc, L, .int v :: .ref (sz + (3 + 7 * c)) :: r, h) Q := by
  refine ev_W.putf hf (R.fx.2.2.2.2.2.2.1 c hc) rfl (nb_bool hb) (by rcases hb with rfl | rfl <;> rfl) ?_
  exact k _ (R.i1 hc v) (hb_E.fix R (by omega))
theorem ev_W.w2 {v : Int32} (R : hb_R z sz dyn mu G n1 n2 s h) (hc : c < 3) (hf : ev_find C pc = some (ev_fn (ev_putf 3 4 .int nx))) (k : ∀ h', hb_R z sz dyn mu G n1 n2 (tI s 2 c v) h' → hb_E dyn G h G h' → ev_W C (nx, L, r, h') Q) : ev_W C (pc, L, .int v :: .ref (sz + (6 + 7 * c)) :: r, h) Q := by
  refine ev_W.putf hf (R.fx.2.2.2.2.2.2.2.1 c hc) rfl rfl rfl ?_
  exact k _ (R.i2 hc v) (hb_E.fix R (by omega))
theorem ev_W.w3 {v : Int32} (R : hb_R z sz dyn mu G n1 n2 s h) (hc : c < 3) (hf : ev_find C pc = some (ev_fn (ev_putf 3 6 .int nx))) (k : ∀ h', hb_R z sz dyn mu G n1 n2 (tI s 3 c v) h' → hb_E dyn G h G h' → ev_W C (nx, L, r, h') Q) : ev_W C (pc, L, .int v :: .ref (sz + (6 + 7 * c)) :: r, h) Q := by
  refine ev_W.putf hf (R.fx.2.2.2.2.2.2.2.1 c hc) rfl rfl rfl ?_
  exact k _ (R.i3 hc v) (hb_E.fix R (by omega))
theorem ev_W.w4 {v : Int32} (R : hb_R z sz dyn mu G n1 n2 s h) (hc : c < 3) (hf : ev_find C pc = some (ev_fn (ev_putf 4 0 .int nx))) (k : ∀ h', hb_R z sz dyn mu G n1 n2 (tI s 4 c v) h' → hb_E dyn G h G h' → ev_W C (nx, L, r, h') Q) : ev_W C (pc, L, .int v :: .ref (sz + (8 + 7 * c)) :: r, h) Q := by
  refine ev_W.putf hf (R.o4 hc) rfl rfl rfl ?_
  exact k _ (R.i4 hc v) (hb_E.fix R (by omega))
theorem ev_W.w5 {v : Int32} (R : hb_R z sz dyn mu G n1 n2 s h) (hc : c < 3) (hb : v = 0 ∨ v = 1) (hf : ev_find C pc = some (ev_fn (ev_putf 6 0 .boolean nx))) (k : ∀ h', hb_R z sz dyn mu G n1 n2 (tI s 5 c v) h' → hb_E dyn G h G h' → ev_W C (nx, L, r, h') Q) : ev_W C (pc, L, .int v :: .ref (sz + (28 + 6 * c)) :: r, h) Q := by
  refine ev_W.putf hf (R.o6 hc) rfl (nb_bool hb) (by rcases hb with rfl | rfl <;> rfl) ?_
  exact k _ (R.i5 hc v) (hb_E.fix R (by omega))
theorem ev_W.w6 {v : Int32} (R : hb_R z sz dyn mu G n1 n2 s h) (hc : c < 3) (hf : ev_find C pc = some (ev_fn (ev_putf 6 1 .int nx))) (k : ∀ h', hb_R z sz dyn mu G n1 n2 (tI s 6 c v) h' → hb_E dyn G h G h' → ev_W C (nx, L, r, h') Q) : ev_W C (pc, L, .int v :: .ref (sz + (28 + 6 * c)) :: r, h) Q := by
  refine ev_W.putf hf (R.o6 hc) rfl rfl rfl ?_
  exact k _ (R.i6 hc v) (hb_E.fix R (by omega))
theorem ev_W.w7 {v : Int32} (R : hb_R z sz dyn mu G n1 n2 s h) (hc : c < 3) (hf : ev_find C pc = some (ev_fn (ev_putf 6 2 .int nx))) (k : ∀ h', hb_R z sz dyn mu G n1 n2 (tI s 7 c v) h' → hb_E dyn G h G h' → ev_W C (nx, L, r, h') Q) : ev_W C (pc, L, .int v :: .ref (sz + (28 + 6 * c)) :: r, h) Q := by
  refine ev_W.putf hf (R.o6 hc) rfl rfl rfl ?_
  exact k _ (R.i7 hc v) (hb_E.fix R (by omega))
theorem ev_W.w8 {v : Int32} (R : hb_R z sz dyn mu G n1 n2 s h) (hc : c < 3) (hf : ev_find C pc = some (ev_fn (ev_putf 6 3 .int nx))) (k : ∀ h', hb_R z sz dyn mu G n1 n2 (tI s 8 c v) h' → hb_E dyn G h G h' → ev_W C (nx, L, r, h') Q) : ev_W C (pc, L, .int v :: .ref (sz + (28 + 6 * c)) :: r, h) Q := by
  refine ev_W.putf hf (R.o6 hc) rfl rfl rfl ?_
  exact k _ (R.i8 hc v) (hb_E.fix R (by omega))
theorem ev_W.w9 {v : Int32} (R : hb_R z sz dyn mu G n1 n2 s h) (hc : c < 3) (hf : ev_find C pc = some (ev_fn (ev_putf 6 5 .int nx))) (k : ∀ h', hb_R z sz dyn mu G n1 n2 (tI s 9 c v) h' → hb_E dyn G h G h' → ev_W C (nx, L, r, h') Q) : ev_W C (pc, L, .int v :: .ref (sz + (28 + 6 * c)) :: r, h) Q := by
  refine ev_W.putf hf (R.o6 hc) rfl rfl rfl ?_
  exact k _ (R.i9 hc v) (hb_E.fix R (by omega))
theorem ev_W.w10 {v : Int32} (R : hb_R z sz dyn mu G n1 n2 s h) (hc : c < 3) (hb : v = 0 ∨ v = 1) (hf : ev_find C pc = some (ev_fn (ev_putf 7 4 .boolean nx))) (k : ∀ h', hb_R z sz dyn mu G n1 n2 (tI s 10 c v) h' → hb_E dyn G h G h' → ev_W C (nx, L, r, h') Q) : ev_W C (pc, L, .int v :: .ref (sz + (29 + 6 * c)) :: r, h) Q := by
  refine ev_W.putf hf (R.fx.2.2.2.2.2.2.2.2.2.2.2.1 c hc) rfl (nb_bool hb) (by rcases hb with rfl | rfl <;> rfl) ?_
  exact k _ (R.i10 hc v) (hb_E.fix R (by omega))
theorem ev_W.w11 {v : Int32} (R : hb_R z sz dyn mu G n1 n2 s h) (hc : c < 3) (hf : ev_find C pc = some (ev_fn (ev_putf 7 5 .int nx))) (k : ∀ h', hb_R z sz dyn mu G n1 n2 (tI s 11 c v) h' → hb_E dyn G h G h' → ev_W C (nx, L, r, h') Q) : ev_W C (pc, L, .int v :: .ref (sz + (29 + 6 * c)) :: r, h) Q := by
  refine ev_W.putf hf (R.fx.2.2.2.2.2.2.2.2.2.2.2.1 c hc) rfl rfl rfl ?_
  exact k _ (R.i11 hc v) (hb_E.fix R (by omega))
theorem ev_W.w12 {v : Int32} (R : hb_R z sz dyn mu G n1 n2 s h) (hc : c < 3) (hf : ev_find C pc = some (ev_fn (ev_putf 7 6 .int nx))) (k : ∀ h', hb_R z sz dyn mu G n1 n2 (tI s 12 c v) h' → hb_E dyn G h G h' → ev_W C (nx, L, r, h') Q) : ev_W C (pc, L, .int v :: .ref (sz + (29 + 6 * c)) :: r, h) Q := by
  refine ev_W.putf hf (R.fx.2.2.2.2.2.2.2.2.2.2.2.1 c hc) rfl rfl rfl ?_
  exact k _ (R.i12 hc v) (hb_E.fix R (by omega))
theorem ev_W.w13 {v : Int32} (R : hb_R z sz dyn mu G n1 n2 s h) (hc : c < 3) (hf : ev_find C pc = some (ev_fn (ev_putf 4 0 .int nx))) (k : ∀ h', hb_R z sz dyn mu G n1 n2 (tI s 13 c v) h' → hb_E dyn G h G h' → ev_W C (nx, L, r, h') Q) : ev_W C (pc, L, .int v :: .ref (sz + (33 + 6 * c)) :: r, h) Q := by
  refine ev_W.putf hf (R.o4s hc) rfl rfl rfl ?_
  exact k _ (R.i13 hc v) (hb_E.fix R (by omega))
theorem ev_W.w14 {v : Int32} (R : hb_R z sz dyn mu G n1 n2 s h) (hf : ev_find C pc = some (ev_fn (ev_putf 5 4 .int nx))) (k : ∀ h', hb_R z sz dyn mu G n1 n2 (tI s 14 0 v) h' → hb_E dyn G h G h' → ev_W C (nx, L, r, h') Q) : ev_W C (pc, L, .int v :: .ref (sz + 24) :: r, h) Q := by
  refine ev_W.putf hf R.o5 rfl rfl rfl ?_
  exact k _ (R.i14 v) (hb_E.fix R (by omega))
theorem ev_W.wj0 {v : Int64} (R : hb_R z sz dyn mu G n1 n2 s h) (hc : c < 3) (hf : ev_find C pc = some (ev_fn (ev_putf 3 5 .long nx))) (k : ∀ h', hb_R z sz dyn mu G n1 n2 (tJ s 0 c v) h' → hb_E dyn G h G h' → ev_W C (nx, L, r, h') Q) : ev_W C (pc, L, .long v :: .ref (sz + (6 + 7 * c)) :: r, h) Q := by
  refine ev_W.putf hf (R.fx.2.2.2.2.2.2.2.1 c hc) rfl rfl rfl ?_
  exact k _ (R.j0 hc v) (hb_E.fix R (by omega))
theorem ev_W.wj1 {v : Int64} (R : hb_R z sz dyn mu G n1 n2 s h) (hc : c < 3) (hf : ev_find C pc = some (ev_fn (ev_putf 6 4 .long nx))) (k : ∀ h', hb_R z sz dyn mu G n1 n2 (tJ s 1 c v) h' → hb_E dyn G h G h' → ev_W C (nx, L, r, h') Q) : ev_W C (pc, L, .long v :: .ref (sz + (28 + 6 * c)) :: r, h) Q := by
  refine ev_W.putf hf (R.o6 hc) rfl rfl rfl ?_
  exact k _ (R.j1 hc v) (hb_E.fix R (by omega))
end AR
