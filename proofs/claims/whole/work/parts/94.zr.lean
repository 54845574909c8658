/-! The reference read and written by the state (laid by wip/whole/p94.py). -/
def zR (z : Nat × Nat) (m0 : Nat) (s : hb_S) (p : hb_Pk) (t : rf_S) (h : ev_H) : Prop := rf_P z m0 t h ∧ RR s t ∧ rg t p ∧ BD s
theorem zm (a b : Nat) : nI a * nI b = nI (a * b) := (Int32.ofNat_mul a b).symm
theorem zma (a b d : Nat) : nI a * nI b + nI d = nI (a * b + d) := by rw [zm, nI_add]
theorem zma1 (a b : Nat) : nI a * nI b + 1 = nI (a * b + 1) := by rw [zm, nI_1]
theorem zmb (a b d e : Nat) : nI a * nI b + nI d + nI e = nI (a * b + d + e) := by rw [zma, nI_add]
section ZR
variable {z : Nat × Nat} {m0 : Nat} {s : hb_S} {p : hb_Pk} {t : rf_S} {h : ev_H} {C : ev_C} {pc nx : Nat} {L : ev_L} {r : List Value} {Q : ev_O → Prop} {c : Nat} {i : Int32}
theorem zR.ob (R : zR z m0 s p t h) : h.2.2 m0 = some (.inr (12, rf_F m0 t)) := R.1.2.2.2.1
theorem ev_W.g22  (R : zR z m0 s p t h) (hc : c < 3) (hi : i = nI (c)) (hf : ev_find C pc = some (ev_fn (ev_iald nx))) (k : ev_W C (nx, L, .int (sI s 0 c) :: r, h) Q) : ev_W C (pc, L, .int i :: .ref (m0 + (1 + rf_r 22)) :: r, h) Q := by
  refine ev_W.ri 22 R.1 rfl hi hc hf ?_
  rw [R.2.1.c0 c hc]; exact k
theorem ev_W.g36  (R : zR z m0 s p t h) (hc : c < 3) (hi : i = nI (c)) (hf : ev_find C pc = some (ev_fn (ev_zald nx))) (k : ev_W C (nx, L, .int (sI s 1 c) :: r, h) Q) : ev_W C (pc, L, .int i :: .ref (m0 + (1 + rf_r 36)) :: r, h) Q := by
  refine ev_W.rz 36 R.1 rfl hi hc hf ?_
  rw [R.2.1.c1 c hc]; exact k
theorem ev_W.g31  (R : zR z m0 s p t h) (hc : c < 3) (hi : i = nI (c)) (hf : ev_find C pc = some (ev_fn (ev_iald nx))) (k : ev_W C (nx, L, .int (sI s 2 c) :: r, h) Q) : ev_W C (pc, L, .int i :: .ref (m0 + (1 + rf_r 31)) :: r, h) Q := by
  refine ev_W.ri 31 R.1 rfl hi hc hf ?_
  rw [R.2.1.c2 c hc]; exact k
theorem ev_W.g34  (R : zR z m0 s p t h) (hc : c < 3) (hi : i = nI (c)) (hf : ev_find C pc = some (ev_fn (ev_iald nx))) (k : ev_W C (nx, L, .int (sI s 3 c) :: r, h) Q) : ev_W C (pc, L, .int i :: .ref (m0 + (1 + rf_r 34)) :: r, h) Q := by
  refine ev_W.ri 34 R.1 rfl hi hc hf ?_
  rw [R.2.1.c3 c hc]; exact k
theorem ev_W.g35  (R : zR z m0 s p t h) (hc : c < 3) (hi : i = nI (c)) (hf : ev_find C pc = some (ev_fn (ev_zald nx))) (k : ev_W C (nx, L, .int (sI s 5 c) :: r, h) Q) : ev_W C (pc, L, .int i :: .ref (m0 + (1 + rf_r 35)) :: r, h) Q := by
  refine ev_W.rz 35 R.1 rfl hi hc hf ?_
  rw [R.2.1.c5 c hc]; exact k
theorem ev_W.g37  (R : zR z m0 s p t h) (hc : c < 3) (hi : i = nI (c)) (hf : ev_find C pc = some (ev_fn (ev_iald nx))) (k : ev_W C (nx, L, .int (sI s 6 c) :: r, h) Q) : ev_W C (pc, L, .int i :: .ref (m0 + (1 + rf_r 37)) :: r, h) Q := by
  refine ev_W.ri 37 R.1 rfl hi hc hf ?_
  rw [R.2.1.c6 c hc]; exact k
theorem ev_W.g39  (R : zR z m0 s p t h) (hc : c < 3) (hi : i = nI (c)) (hf : ev_find C pc = some (ev_fn (ev_iald nx))) (k : ev_W C (nx, L, .int (sI s 7 c) :: r, h) Q) : ev_W C (pc, L, .int i :: .ref (m0 + (1 + rf_r 39)) :: r, h) Q := by
  refine ev_W.ri 39 R.1 rfl hi hc hf ?_
  rw [R.2.1.c7 c hc]; exact k
theorem ev_W.g38  (R : zR z m0 s p t h) (hc : c < 3) (hi : i = nI (c)) (hf : ev_find C pc = some (ev_fn (ev_iald nx))) (k : ev_W C (nx, L, .int (sI s 8 c) :: r, h) Q) : ev_W C (pc, L, .int i :: .ref (m0 + (1 + rf_r 38)) :: r, h) Q := by
  refine ev_W.ri 38 R.1 rfl hi hc hf ?_
  rw [R.2.1.c8 c hc]; exact k
theorem ev_W.g41  (R : zR z m0 s p t h) (hc : c < 3) (hi : i = nI (c)) (hf : ev_find C pc = some (ev_fn (ev_iald nx))) (k : ev_W C (nx, L, .int (sI s 9 c) :: r, h) Q) : ev_W C (pc, L, .int i :: .ref (m0 + (1 + rf_r 41)) :: r, h) Q := by
  refine ev_W.ri 41 R.1 rfl hi hc hf ?_
  rw [R.2.1.c9 c hc]; exact k
theorem ev_W.g42  (R : zR z m0 s p t h) (hc : c < 3) (hi : i = nI (c)) (hf : ev_find C pc = some (ev_fn (ev_zald nx))) (k : ev_W C (nx, L, .int (sI s 10 c) :: r, h) Q) : ev_W C (pc, L, .int i :: .ref (m0 + (1 + rf_r 42)) :: r, h) Q := by
  refine ev_W.rz 42 R.1 rfl hi hc hf ?_
  rw [R.2.1.c10 c hc]; exact k
theorem ev_W.g56  (R : zR z m0 s p t h) (hc : c < 3) (hi : i = nI (c)) (hf : ev_find C pc = some (ev_fn (ev_iald nx))) (k : ev_W C (nx, L, .int (sI s 11 c) :: r, h) Q) : ev_W C (pc, L, .int i :: .ref (m0 + (1 + rf_r 56)) :: r, h) Q := by
  refine ev_W.ri 56 R.1 rfl hi hc hf ?_
  rw [R.2.1.c11 c hc]; exact k
theorem ev_W.g57  (R : zR z m0 s p t h) (hc : c < 3) (hi : i = nI (c)) (hf : ev_find C pc = some (ev_fn (ev_iald nx))) (k : ev_W C (nx, L, .int (sI s 12 c) :: r, h) Q) : ev_W C (pc, L, .int i :: .ref (m0 + (1 + rf_r 57)) :: r, h) Q := by
  refine ev_W.ri 57 R.1 rfl hi hc hf ?_
  rw [R.2.1.c12 c hc]; exact k
theorem ev_W.g33  (R : zR z m0 s p t h) (hc : c < 3) (hi : i = nI (c)) (hf : ev_find C pc = some (ev_fn (ev_lald nx))) (k : ev_W C (nx, L, .long (tz_pl (sJ s 0 c)) :: r, h) Q) : ev_W C (pc, L, .int i :: .ref (m0 + (1 + rf_r 33)) :: r, h) Q := by
  refine ev_W.rl 33 R.1 rfl hi hc hf ?_
  rw [R.2.1.j0 c hc]; exact k
theorem ev_W.g40  (R : zR z m0 s p t h) (hc : c < 3) (hi : i = nI (c)) (hf : ev_find C pc = some (ev_fn (ev_lald nx))) (k : ev_W C (nx, L, .long (tz_pl (sJ s 1 c)) :: r, h) Q) : ev_W C (pc, L, .int i :: .ref (m0 + (1 + rf_r 40)) :: r, h) Q := by
  refine ev_W.rl 40 R.1 rfl hi hc hf ?_
  rw [R.2.1.j1 c hc]; exact k
theorem ev_W.g0 {l : Nat} (R : zR z m0 s p t h) (hl : l < 6) (hi : i = nI (l)) (hf : ev_find C pc = some (ev_fn (ev_iald nx))) (k : ev_W C (nx, L, .int (nI (sN s l).length) :: r, h) Q) : ev_W C (pc, L, .int i :: .ref (m0 + (1 + rf_r 0)) :: r, h) Q := by
  refine ev_W.ri 0 R.1 rfl hi hl hf ?_
  rw [(R.2.1.n l hl).1]; exact k
theorem ev_W.g23  (R : zR z m0 s p t h) (hc : c < 3) (hi : i = nI (c)) (hf : ev_find C pc = some (ev_fn (ev_iald nx))) (k : ev_W C (nx, L, .int (nI (sP s c).length) :: r, h) Q) : ev_W C (pc, L, .int i :: .ref (m0 + (1 + rf_r 23)) :: r, h) Q := by
  refine ev_W.ri 23 R.1 rfl hi hc hf ?_
  rw [(R.2.1.p c hc).1]; exact k
theorem ev_W.g43  (R : zR z m0 s p t h) (hc : c < 3) (hi : i = nI (c)) (hf : ev_find C pc = some (ev_fn (ev_iald nx))) (k : ev_W C (nx, L, .int (nI (sB s c).length) :: r, h) Q) : ev_W C (pc, L, .int i :: .ref (m0 + (1 + rf_r 43)) :: r, h) Q := by
  refine ev_W.ri 43 R.1 rfl hi hc hf ?_
  rw [(R.2.1.b c hc).1]; exact k
theorem ev_W.g47  (R : zR z m0 s p t h) (hc : c < 3) (hi : i = nI (c)) (hf : ev_find C pc = some (ev_fn (ev_iald nx))) (k : ev_W C (nx, L, .int (nI (sP s (3 + c)).length) :: r, h) Q) : ev_W C (pc, L, .int i :: .ref (m0 + (1 + rf_r 47)) :: r, h) Q := by
  refine ev_W.ri 47 R.1 rfl hi hc hf ?_
  rw [(R.2.1.u c hc).1]; exact k
theorem ev_W.g48  (R : zR z m0 s p t h) (hc : c < 3) (hi : i = nI (c)) (hf : ev_find C pc = some (ev_fn (ev_iald nx))) (k : ev_W C (nx, L, .int (nI (sM s c).length) :: r, h) Q) : ev_W C (pc, L, .int i :: .ref (m0 + (1 + rf_r 48)) :: r, h) Q := by
  refine ev_W.ri 48 R.1 rfl hi hc hf ?_
  rw [(R.2.1.u c hc).2.1]; exact k
theorem ev_W.g24 {j : Nat} {x : hb_Pa} (R : zR z m0 s p t h) (hc : c < 3) (hx : (sP s c)[j]? = some x) (hi : i = nI (4 * c + j)) (hf : ev_find C pc = some (ev_fn (ev_lald nx))) (k : ev_W C (nx, L, .long (tz_pl x.1.1) :: r, h) Q) : ev_W C (pc, L, .int i :: .ref (m0 + (1 + rf_r 24)) :: r, h) Q := by
  refine ev_W.rl 24 R.1 rfl hi (by have h1 := (List.getElem?_eq_some_iff.mp hx).1; have h2 := R.2.2.2.2.1 c hc; show 4 * c + j < 12; omega) hf ?_
  rw [((R.2.1.p c hc).2 j x hx).1]; exact k
theorem ev_W.g25 {j : Nat} {x : hb_Pa} (R : zR z m0 s p t h) (hc : c < 3) (hx : (sP s c)[j]? = some x) (hi : i = nI (4 * c + j)) (hf : ev_find C pc = some (ev_fn (ev_iald nx))) (k : ev_W C (nx, L, .int (x.1.2.1) :: r, h) Q) : ev_W C (pc, L, .int i :: .ref (m0 + (1 + rf_r 25)) :: r, h) Q := by
  refine ev_W.ri 25 R.1 rfl hi (by have h1 := (List.getElem?_eq_some_iff.mp hx).1; have h2 := R.2.2.2.2.1 c hc; show 4 * c + j < 12; omega) hf ?_
  rw [((R.2.1.p c hc).2 j x hx).2.1]; exact k
theorem ev_W.g26 {j : Nat} {x : hb_Pa} (R : zR z m0 s p t h) (hc : c < 3) (hx : (sP s c)[j]? = some x) (hi : i = nI (4 * c + j)) (hf : ev_find C pc = some (ev_fn (ev_iald nx))) (k : ev_W C (nx, L, .int (x.1.2.2.1) :: r, h) Q) : ev_W C (pc, L, .int i :: .ref (m0 + (1 + rf_r 26)) :: r, h) Q := by
  refine ev_W.ri 26 R.1 rfl hi (by have h1 := (List.getElem?_eq_some_iff.mp hx).1; have h2 := R.2.2.2.2.1 c hc; show 4 * c + j < 12; omega) hf ?_
  rw [((R.2.1.p c hc).2 j x hx).2.2.1]; exact k
theorem ev_W.g27 {j : Nat} {x : hb_Pa} (R : zR z m0 s p t h) (hc : c < 3) (hx : (sP s c)[j]? = some x) (hi : i = nI (4 * c + j)) (hf : ev_find C pc = some (ev_fn (ev_zald nx))) (k : ev_W C (nx, L, .int (zb x.1.2.2.2) :: r, h) Q) : ev_W C (pc, L, .int i :: .ref (m0 + (1 + rf_r 27)) :: r, h) Q := by
  refine ev_W.rz 27 R.1 rfl hi (by have h1 := (List.getElem?_eq_some_iff.mp hx).1; have h2 := R.2.2.2.2.1 c hc; show 4 * c + j < 12; omega) hf ?_
  rw [((R.2.1.p c hc).2 j x hx).2.2.2.1]; exact k
theorem ev_W.g28 {j : Nat} {x : hb_Pa} (R : zR z m0 s p t h) (hc : c < 3) (hx : (sP s c)[j]? = some x) (hi : i = nI (4 * c + j)) (hf : ev_find C pc = some (ev_fn (ev_iald nx))) (k : ev_W C (nx, L, .int (x.2.1) :: r, h) Q) : ev_W C (pc, L, .int i :: .ref (m0 + (1 + rf_r 28)) :: r, h) Q := by
  refine ev_W.ri 28 R.1 rfl hi (by have h1 := (List.getElem?_eq_some_iff.mp hx).1; have h2 := R.2.2.2.2.1 c hc; show 4 * c + j < 12; omega) hf ?_
  rw [((R.2.1.p c hc).2 j x hx).2.2.2.2.1]; exact k
theorem ev_W.g29 {j : Nat} {x : hb_Pa} (R : zR z m0 s p t h) (hc : c < 3) (hx : (sP s c)[j]? = some x) (h0 : ¬ x.2.1 = 0) (hi : i = nI (4 * c + j)) (hf : ev_find C pc = some (ev_fn (ev_iald nx))) (k : ev_W C (nx, L, .int (x.2.2) :: r, h) Q) : ev_W C (pc, L, .int i :: .ref (m0 + (1 + rf_r 29)) :: r, h) Q := by
  refine ev_W.ri 29 R.1 rfl hi (by have h1 := (List.getElem?_eq_some_iff.mp hx).1; have h2 := R.2.2.2.2.1 c hc; show 4 * c + j < 12; omega) hf ?_
  rw [((R.2.1.p c hc).2 j x hx).2.2.2.2.2 h0]; exact k
theorem ev_W.g44 {j : Nat} {x : hb_Sb} (R : zR z m0 s p t h) (hc : c < 3) (hx : (sB s c)[j]? = some x) (hi : i = nI (4 * c + j)) (hf : ev_find C pc = some (ev_fn (ev_lald nx))) (k : ev_W C (nx, L, .long (tz_pl x.1) :: r, h) Q) : ev_W C (pc, L, .int i :: .ref (m0 + (1 + rf_r 44)) :: r, h) Q := by
  refine ev_W.rl 44 R.1 rfl hi (by have h1 := (List.getElem?_eq_some_iff.mp hx).1; have h2 := R.2.2.2.2.2.1 c hc; show 4 * c + j < 12; omega) hf ?_
  rw [((R.2.1.b c hc).2 j x hx).1]; exact k
theorem ev_W.g45 {j : Nat} {x : hb_Sb} (R : zR z m0 s p t h) (hc : c < 3) (hx : (sB s c)[j]? = some x) (hi : i = nI (4 * c + j)) (hf : ev_find C pc = some (ev_fn (ev_iald nx))) (k : ev_W C (nx, L, .int (x.2.1) :: r, h) Q) : ev_W C (pc, L, .int i :: .ref (m0 + (1 + rf_r 45)) :: r, h) Q := by
  refine ev_W.ri 45 R.1 rfl hi (by have h1 := (List.getElem?_eq_some_iff.mp hx).1; have h2 := R.2.2.2.2.2.1 c hc; show 4 * c + j < 12; omega) hf ?_
  rw [((R.2.1.b c hc).2 j x hx).2.1]; exact k
theorem ev_W.g46 {j : Nat} {x : hb_Sb} (R : zR z m0 s p t h) (hc : c < 3) (hx : (sB s c)[j]? = some x) (hi : i = nI (4 * c + j)) (hf : ev_find C pc = some (ev_fn (ev_zald nx))) (k : ev_W C (nx, L, .int (zb x.2.2) :: r, h) Q) : ev_W C (pc, L, .int i :: .ref (m0 + (1 + rf_r 46)) :: r, h) Q := by
  refine ev_W.rz 46 R.1 rfl hi (by have h1 := (List.getElem?_eq_some_iff.mp hx).1; have h2 := R.2.2.2.2.2.1 c hc; show 4 * c + j < 12; omega) hf ?_
  rw [((R.2.1.b c hc).2 j x hx).2.2]; exact k
theorem ev_W.g49 {j : Nat} {x : hb_Pa} (R : zR z m0 s p t h) (hc : c < 3) (hx : (sP s (3 + c))[j]? = some x) (hi : i = nI (8 * c + j)) (hf : ev_find C pc = some (ev_fn (ev_lald nx))) (k : ev_W C (nx, L, .long (tz_pl x.1.1) :: r, h) Q) : ev_W C (pc, L, .int i :: .ref (m0 + (1 + rf_r 49)) :: r, h) Q := by
  refine ev_W.rl 49 R.1 rfl hi (by have h1 := (List.getElem?_eq_some_iff.mp hx).1; have h2 := R.2.2.2.2.2.2.1 c hc; show 8 * c + j < 24; omega) hf ?_
  rw [((R.2.1.u c hc).2.2.1 j x hx).1.1]; exact k
theorem ev_W.g50 {j : Nat} {x : hb_Pa} (R : zR z m0 s p t h) (hc : c < 3) (hx : (sP s (3 + c))[j]? = some x) (hi : i = nI (8 * c + j)) (hf : ev_find C pc = some (ev_fn (ev_iald nx))) (k : ev_W C (nx, L, .int (x.1.2.1) :: r, h) Q) : ev_W C (pc, L, .int i :: .ref (m0 + (1 + rf_r 50)) :: r, h) Q := by
  refine ev_W.ri 50 R.1 rfl hi (by have h1 := (List.getElem?_eq_some_iff.mp hx).1; have h2 := R.2.2.2.2.2.2.1 c hc; show 8 * c + j < 24; omega) hf ?_
  rw [((R.2.1.u c hc).2.2.1 j x hx).1.2.1]; exact k
theorem ev_W.g51 {j : Nat} {x : hb_Pa} (R : zR z m0 s p t h) (hc : c < 3) (hx : (sP s (3 + c))[j]? = some x) (hi : i = nI (8 * c + j)) (hf : ev_find C pc = some (ev_fn (ev_iald nx))) (k : ev_W C (nx, L, .int (x.1.2.2.1) :: r, h) Q) : ev_W C (pc, L, .int i :: .ref (m0 + (1 + rf_r 51)) :: r, h) Q := by
  refine ev_W.ri 51 R.1 rfl hi (by have h1 := (List.getElem?_eq_some_iff.mp hx).1; have h2 := R.2.2.2.2.2.2.1 c hc; show 8 * c + j < 24; omega) hf ?_
  rw [((R.2.1.u c hc).2.2.1 j x hx).1.2.2.1]; exact k
theorem ev_W.g52 {j : Nat} {x : hb_Pa} (R : zR z m0 s p t h) (hc : c < 3) (hx : (sP s (3 + c))[j]? = some x) (hi : i = nI (8 * c + j)) (hf : ev_find C pc = some (ev_fn (ev_zald nx))) (k : ev_W C (nx, L, .int (zb x.1.2.2.2) :: r, h) Q) : ev_W C (pc, L, .int i :: .ref (m0 + (1 + rf_r 52)) :: r, h) Q := by
  refine ev_W.rz 52 R.1 rfl hi (by have h1 := (List.getElem?_eq_some_iff.mp hx).1; have h2 := R.2.2.2.2.2.2.1 c hc; show 8 * c + j < 24; omega) hf ?_
  rw [((R.2.1.u c hc).2.2.1 j x hx).1.2.2.2]; exact k
theorem ev_W.g53 {j : Nat} {x : hb_Pa} (R : zR z m0 s p t h) (hc : c < 3) (hx : (sP s (3 + c))[j]? = some x) (hi : i = nI (8 * c + j)) (hf : ev_find C pc = some (ev_fn (ev_iald nx))) (k : ev_W C (nx, L, .int (x.2.1) :: r, h) Q) : ev_W C (pc, L, .int i :: .ref (m0 + (1 + rf_r 53)) :: r, h) Q := by
  refine ev_W.ri 53 R.1 rfl hi (by have h1 := (List.getElem?_eq_some_iff.mp hx).1; have h2 := R.2.2.2.2.2.2.1 c hc; show 8 * c + j < 24; omega) hf ?_
  rw [((R.2.1.u c hc).2.2.1 j x hx).2.1]; exact k
theorem ev_W.g54 {j : Nat} {x : hb_Pa} (R : zR z m0 s p t h) (hc : c < 3) (hx : (sP s (3 + c))[j]? = some x) (hi : i = nI (8 * c + j)) (hf : ev_find C pc = some (ev_fn (ev_iald nx))) (k : ev_W C (nx, L, .int (x.2.2) :: r, h) Q) : ev_W C (pc, L, .int i :: .ref (m0 + (1 + rf_r 54)) :: r, h) Q := by
  refine ev_W.ri 54 R.1 rfl hi (by have h1 := (List.getElem?_eq_some_iff.mp hx).1; have h2 := R.2.2.2.2.2.2.1 c hc; show 8 * c + j < 24; omega) hf ?_
  rw [((R.2.1.u c hc).2.2.1 j x hx).2.2]; exact k
theorem ev_W.g59 {j : Nat} {x : hb_Ms} (R : zR z m0 s p t h) (hx : (sM s 3)[j]? = some x) (hi : i = nI (j)) (hf : ev_find C pc = some (ev_fn (ev_lald nx))) (k : ev_W C (nx, L, .long (tz_pl x.1) :: r, h) Q) : ev_W C (pc, L, .int i :: .ref (m0 + (1 + rf_r 59)) :: r, h) Q := by
  refine ev_W.rl 59 R.1 rfl hi (by have h1 := (List.getElem?_eq_some_iff.mp hx).1; have h2 := R.2.2.2.2.2.2.2; show j < 4; omega) hf ?_
  rw [(R.2.1.k.2 j x hx).1]; exact k
theorem ev_W.g60 {j : Nat} {x : hb_Ms} (R : zR z m0 s p t h) (hx : (sM s 3)[j]? = some x) (hi : i = nI (j)) (hf : ev_find C pc = some (ev_fn (ev_iald nx))) (k : ev_W C (nx, L, .int (x.2.1) :: r, h) Q) : ev_W C (pc, L, .int i :: .ref (m0 + (1 + rf_r 60)) :: r, h) Q := by
  refine ev_W.ri 60 R.1 rfl hi (by have h1 := (List.getElem?_eq_some_iff.mp hx).1; have h2 := R.2.2.2.2.2.2.2; show j < 4; omega) hf ?_
  rw [(R.2.1.k.2 j x hx).2.1]; exact k
theorem ev_W.g61 {j : Nat} {x : hb_Ms} (R : zR z m0 s p t h) (hx : (sM s 3)[j]? = some x) (hi : i = nI (j)) (hf : ev_find C pc = some (ev_fn (ev_iald nx))) (k : ev_W C (nx, L, .int (x.2.2.1) :: r, h) Q) : ev_W C (pc, L, .int i :: .ref (m0 + (1 + rf_r 61)) :: r, h) Q := by
  refine ev_W.ri 61 R.1 rfl hi (by have h1 := (List.getElem?_eq_some_iff.mp hx).1; have h2 := R.2.2.2.2.2.2.2; show j < 4; omega) hf ?_
  rw [(R.2.1.k.2 j x hx).2.2]; exact k
theorem ev_W.g30 {j : Nat} (R : zR z m0 s p t h) (hc : c < 3) (hj : j < 9) (hi : i = nI (9 * c + j)) (hf : ev_find C pc = some (ev_fn (ev_zald nx))) (k : ev_W C (nx, L, .int (zb (hbit (sI s 4 c) (nI j))) :: r, h) Q) : ev_W C (pc, L, .int i :: .ref (m0 + (1 + rf_r 30)) :: r, h) Q := by
  refine ev_W.rz 30 R.1 rfl hi (by show 9 * c + j < 27; omega) hf ?_
  rw [R.2.1.h4 c hc j hj]; exact k
theorem ev_W.g55 {j : Nat} (R : zR z m0 s p t h) (hc : c < 3) (hj : j < 9) (hi : i = nI (9 * c + j)) (hf : ev_find C pc = some (ev_fn (ev_zald nx))) (k : ev_W C (nx, L, .int (zb (hbit (sI s 13 c) (nI j))) :: r, h) Q) : ev_W C (pc, L, .int i :: .ref (m0 + (1 + rf_r 55)) :: r, h) Q := by
  refine ev_W.rz 55 R.1 rfl hi (by show 9 * c + j < 27; omega) hf ?_
  rw [R.2.1.h13 c hc j hj]; exact k
theorem ev_W.g32 {j : Nat} (R : zR z m0 s p t h) (hc : c < 3) (hj : j < 100) (hi : i = nI (100 * c + j)) (hf : ev_find C pc = some (ev_fn (ev_iald nx))) (k : ev_W C (nx, L, .int (sX s c j) :: r, h) Q) : ev_W C (pc, L, .int i :: .ref (m0 + (1 + rf_r 32)) :: r, h) Q := by
  refine ev_W.ri 32 R.1 rfl hi (by show 100 * c + j < 300; omega) hf ?_
  rw [R.2.1.x c hc j hj]; exact k
theorem ev_W.g1 {j l : Nat} {x : hb_Pk} (R : zR z m0 s p t h) (hl : l < 6) (hx : (sN s l)[j]? = some x) (hi : i = nI (32 * l + j)) (hf : ev_find C pc = some (ev_fn (ev_iald nx))) (k : ev_W C (nx, L, .int (x.1) :: r, h) Q) : ev_W C (pc, L, .int i :: .ref (m0 + (1 + rf_r 1)) :: r, h) Q := by
  refine ev_W.ri 1 R.1 rfl hi (by have h1 := (List.getElem?_eq_some_iff.mp hx).1; have h2 := R.2.2.2.1 l hl; show 32 * l + j < 192; omega) hf ?_
  rw [((R.2.1.n l hl).2 j x hx).1]; exact k
theorem ev_W.g2 {j l : Nat} {x : hb_Pk} (R : zR z m0 s p t h) (hl : l < 6) (hx : (sN s l)[j]? = some x) (hi : i = nI (32 * l + j)) (hf : ev_find C pc = some (ev_fn (ev_iald nx))) (k : ev_W C (nx, L, .int (x.2.1) :: r, h) Q) : ev_W C (pc, L, .int i :: .ref (m0 + (1 + rf_r 2)) :: r, h) Q := by
  refine ev_W.ri 2 R.1 rfl hi (by have h1 := (List.getElem?_eq_some_iff.mp hx).1; have h2 := R.2.2.2.1 l hl; show 32 * l + j < 192; omega) hf ?_
  rw [((R.2.1.n l hl).2 j x hx).2.1]; exact k
theorem ev_W.g3 {j l : Nat} {x : hb_Pk} (R : zR z m0 s p t h) (hl : l < 6) (hx : (sN s l)[j]? = some x) (hi : i = nI (32 * l + j)) (hf : ev_find C pc = some (ev_fn (ev_iald nx))) (k : ev_W C (nx, L, .int (x.2.2.1) :: r, h) Q) : ev_W C (pc, L, .int i :: .ref (m0 + (1 + rf_r 3)) :: r, h) Q := by
  refine ev_W.ri 3 R.1 rfl hi (by have h1 := (List.getElem?_eq_some_iff.mp hx).1; have h2 := R.2.2.2.1 l hl; show 32 * l + j < 192; omega) hf ?_
  rw [((R.2.1.n l hl).2 j x hx).2.2.1]; exact k
theorem ev_W.g4 {j l : Nat} {x : hb_Pk} (R : zR z m0 s p t h) (hl : l < 6) (hx : (sN s l)[j]? = some x) (hi : i = nI (32 * l + j)) (hf : ev_find C pc = some (ev_fn (ev_iald nx))) (k : ev_W C (nx, L, .int (x.2.2.2.2.1) :: r, h) Q) : ev_W C (pc, L, .int i :: .ref (m0 + (1 + rf_r 4)) :: r, h) Q := by
  refine ev_W.ri 4 R.1 rfl hi (by have h1 := (List.getElem?_eq_some_iff.mp hx).1; have h2 := R.2.2.2.1 l hl; show 32 * l + j < 192; omega) hf ?_
  rw [((R.2.1.n l hl).2 j x hx).2.2.2.1]; exact k
theorem ev_W.g5 {j l : Nat} {x : hb_Pk} (R : zR z m0 s p t h) (hl : l < 6) (hx : (sN s l)[j]? = some x) (hi : i = nI (32 * l + j)) (hf : ev_find C pc = some (ev_fn (ev_zald nx))) (k : ev_W C (nx, L, .int (zb x.2.2.2.2.2.1) :: r, h) Q) : ev_W C (pc, L, .int i :: .ref (m0 + (1 + rf_r 5)) :: r, h) Q := by
  refine ev_W.rz 5 R.1 rfl hi (by have h1 := (List.getElem?_eq_some_iff.mp hx).1; have h2 := R.2.2.2.1 l hl; show 32 * l + j < 192; omega) hf ?_
  rw [((R.2.1.n l hl).2 j x hx).2.2.2.2.1]; exact k
theorem ev_W.g6 {j l : Nat} {x : hb_Pk} (R : zR z m0 s p t h) (hl : l < 6) (hx : (sN s l)[j]? = some x) (hi : i = nI (32 * l + j)) (hf : ev_find C pc = some (ev_fn (ev_zald nx))) (k : ev_W C (nx, L, .int (zb x.2.2.2.2.2.2.1) :: r, h) Q) : ev_W C (pc, L, .int i :: .ref (m0 + (1 + rf_r 6)) :: r, h) Q := by
  refine ev_W.rz 6 R.1 rfl hi (by have h1 := (List.getElem?_eq_some_iff.mp hx).1; have h2 := R.2.2.2.1 l hl; show 32 * l + j < 192; omega) hf ?_
  rw [((R.2.1.n l hl).2 j x hx).2.2.2.2.2.1]; exact k
theorem ev_W.g12 (R : zR z m0 s p t h) (hf : ev_find C pc = some (ev_fn (ev_getf 12 12 nx))) (k : ev_W C (nx, L, .int p.1 :: r, h) Q) : ev_W C (pc, L, .ref m0 :: r, h) Q := by
  refine ev_W.obj hf R.ob rfl ?_
  rw [← R.2.2.1.1] at k; exact k
theorem ev_W.g13 (R : zR z m0 s p t h) (hf : ev_find C pc = some (ev_fn (ev_getf 12 13 nx))) (k : ev_W C (nx, L, .int p.2.1 :: r, h) Q) : ev_W C (pc, L, .ref m0 :: r, h) Q := by
  refine ev_W.obj hf R.ob rfl ?_
  rw [← R.2.2.1.2.1] at k; exact k
theorem ev_W.g14 (R : zR z m0 s p t h) (hf : ev_find C pc = some (ev_fn (ev_getf 12 14 nx))) (k : ev_W C (nx, L, .int p.2.2.1 :: r, h) Q) : ev_W C (pc, L, .ref m0 :: r, h) Q := by
  refine ev_W.obj hf R.ob rfl ?_
  rw [← R.2.2.1.2.2.1] at k; exact k
theorem ev_W.g15 (R : zR z m0 s p t h) (hf : ev_find C pc = some (ev_fn (ev_getf 12 15 nx))) (k : ev_W C (nx, L, .int p.2.2.2.2.1 :: r, h) Q) : ev_W C (pc, L, .ref m0 :: r, h) Q := by
  refine ev_W.obj hf R.ob rfl ?_
  rw [← R.2.2.1.2.2.2.1] at k; exact k
theorem ev_W.g16 (R : zR z m0 s p t h) (hf : ev_find C pc = some (ev_fn (ev_getf 12 16 nx))) (k : ev_W C (nx, L, .int (zb p.2.2.2.2.2.2.1) :: r, h) Q) : ev_W C (pc, L, .ref m0 :: r, h) Q := by
  refine ev_W.obj hf R.ob rfl ?_
  rw [← R.2.2.1.2.2.2.2.1] at k; exact k
theorem ev_W.g18 (R : zR z m0 s p t h) (h1 : p.1 = 1) (hf : ev_find C pc = some (ev_fn (ev_getf 12 18 nx))) (k : ev_W C (nx, L, .int p.2.2.2.2.2.2.2.1 :: r, h) Q) : ev_W C (pc, L, .ref m0 :: r, h) Q := by
  refine ev_W.obj hf R.ob rfl ?_
  rw [← (R.2.2.1.2.2.2.2.2.1 h1).1] at k; exact k
theorem ev_W.g19 (R : zR z m0 s p t h) (h1 : p.1 = 1) (hf : ev_find C pc = some (ev_fn (ev_getf 12 19 nx))) (k : ev_W C (nx, L, .int p.2.2.2.2.2.2.2.2.1 :: r, h) Q) : ev_W C (pc, L, .ref m0 :: r, h) Q := by
  refine ev_W.obj hf R.ob rfl ?_
  rw [← (R.2.2.1.2.2.2.2.2.1 h1).2.1] at k; exact k
theorem ev_W.g20 (R : zR z m0 s p t h) (h1 : p.1 = 1) (hf : ev_find C pc = some (ev_fn (ev_getf 12 20 nx))) (k : ev_W C (nx, L, .long (tz_pl p.2.2.2.1) :: r, h) Q) : ev_W C (pc, L, .ref m0 :: r, h) Q := by
  refine ev_W.obj hf R.ob rfl ?_
  rw [← (R.2.2.1.2.2.2.2.2.1 h1).2.2.1] at k; exact k
theorem ev_W.g21 (R : zR z m0 s p t h) (h1 : p.1 = 1) (hf : ev_find C pc = some (ev_fn (ev_getf 12 21 nx))) (k : ev_W C (nx, L, .int p.2.2.2.2.2.2.2.2.2 :: r, h) Q) : ev_W C (pc, L, .ref m0 :: r, h) Q := by
  refine ev_W.obj hf R.ob rfl ?_
  rw [← (R.2.2.1.2.2.2.2.2.1 h1).2.2.2] at k; exact k
theorem ev_W.g17 (R : zR z m0 s p t h) (h1 : ¬ p.1 = 1) (hf : ev_find C pc = some (ev_fn (ev_getf 12 17 nx))) (k : ev_W C (nx, L, .long (tz_pl p.2.2.2.1) :: r, h) Q) : ev_W C (pc, L, .ref m0 :: r, h) Q := by
  refine ev_W.obj hf R.ob rfl ?_
  rw [← R.2.2.1.2.2.2.2.2.2 h1] at k; exact k
theorem ev_W.g58 (R : zR z m0 s p t h) (hf : ev_find C pc = some (ev_fn (ev_getf 12 58 nx))) (k : ev_W C (nx, L, .int (nI (sM s 3).length) :: r, h) Q) : ev_W C (pc, L, .ref m0 :: r, h) Q := by
  refine ev_W.obj hf R.ob rfl ?_
  rw [← R.2.1.k.1] at k; exact k
theorem ev_W.g62 (R : zR z m0 s p t h) (hf : ev_find C pc = some (ev_fn (ev_getf 12 62 nx))) (k : ev_W C (nx, L, .int (sI s 14 0) :: r, h) Q) : ev_W C (pc, L, .ref m0 :: r, h) Q := by
  refine ev_W.obj hf R.ob rfl ?_
  rw [← R.2.1.f] at k; exact k
theorem ev_W.p22 {x : Int32} (R : zR z m0 s p t h) (hc : c < 3) (hi : i = nI c) (hf : ev_find C pc = some (ev_fn (ev_iast nx))) (k : ∀ t' h', zR z m0 (tI s 0 c x) p t' h' → rf_E m0 h h' → ev_W C (nx, L, r, h') Q) : ev_W C (pc, L, .int x :: .int i :: .ref (m0 + (1 + rf_r 22)) :: r, h) Q := ev_W.si 22 R.1 rfl hi hc hf (fun h' P E => k _ h' ⟨P, R.2.1.w0 x, R.2.2.1, R.2.2.2⟩ E)
theorem ev_W.p36 {x : Int32} (R : zR z m0 s p t h) (hc : c < 3) (hb : x = 0 ∨ x = 1) (hi : i = nI c) (hf : ev_find C pc = some (ev_fn (ev_zast nx))) (k : ∀ t' h', zR z m0 (tI s 1 c x) p t' h' → rf_E m0 h h' → ev_W C (nx, L, r, h') Q) : ev_W C (pc, L, .int x :: .int i :: .ref (m0 + (1 + rf_r 36)) :: r, h) Q := ev_W.sz 36 R.1 rfl hb hi hc hf (fun h' P E => k _ h' ⟨P, R.2.1.w1 x, R.2.2.1, R.2.2.2⟩ E)
theorem ev_W.p31 {x : Int32} (R : zR z m0 s p t h) (hc : c < 3) (hi : i = nI c) (hf : ev_find C pc = some (ev_fn (ev_iast nx))) (k : ∀ t' h', zR z m0 (tI s 2 c x) p t' h' → rf_E m0 h h' → ev_W C (nx, L, r, h') Q) : ev_W C (pc, L, .int x :: .int i :: .ref (m0 + (1 + rf_r 31)) :: r, h) Q := ev_W.si 31 R.1 rfl hi hc hf (fun h' P E => k _ h' ⟨P, R.2.1.w2 x, R.2.2.1, R.2.2.2⟩ E)
theorem ev_W.p34 {x : Int32} (R : zR z m0 s p t h) (hc : c < 3) (hi : i = nI c) (hf : ev_find C pc = some (ev_fn (ev_iast nx))) (k : ∀ t' h', zR z m0 (tI s 3 c x) p t' h' → rf_E m0 h h' → ev_W C (nx, L, r, h') Q) : ev_W C (pc, L, .int x :: .int i :: .ref (m0 + (1 + rf_r 34)) :: r, h) Q := ev_W.si 34 R.1 rfl hi hc hf (fun h' P E => k _ h' ⟨P, R.2.1.w3 x, R.2.2.1, R.2.2.2⟩ E)
theorem ev_W.p35 {x : Int32} (R : zR z m0 s p t h) (hc : c < 3) (hb : x = 0 ∨ x = 1) (hi : i = nI c) (hf : ev_find C pc = some (ev_fn (ev_zast nx))) (k : ∀ t' h', zR z m0 (tI s 5 c x) p t' h' → rf_E m0 h h' → ev_W C (nx, L, r, h') Q) : ev_W C (pc, L, .int x :: .int i :: .ref (m0 + (1 + rf_r 35)) :: r, h) Q := ev_W.sz 35 R.1 rfl hb hi hc hf (fun h' P E => k _ h' ⟨P, R.2.1.w5 x, R.2.2.1, R.2.2.2⟩ E)
theorem ev_W.p37 {x : Int32} (R : zR z m0 s p t h) (hc : c < 3) (hi : i = nI c) (hf : ev_find C pc = some (ev_fn (ev_iast nx))) (k : ∀ t' h', zR z m0 (tI s 6 c x) p t' h' → rf_E m0 h h' → ev_W C (nx, L, r, h') Q) : ev_W C (pc, L, .int x :: .int i :: .ref (m0 + (1 + rf_r 37)) :: r, h) Q := ev_W.si 37 R.1 rfl hi hc hf (fun h' P E => k _ h' ⟨P, R.2.1.w6 x, R.2.2.1, R.2.2.2⟩ E)
theorem ev_W.p39 {x : Int32} (R : zR z m0 s p t h) (hc : c < 3) (hi : i = nI c) (hf : ev_find C pc = some (ev_fn (ev_iast nx))) (k : ∀ t' h', zR z m0 (tI s 7 c x) p t' h' → rf_E m0 h h' → ev_W C (nx, L, r, h') Q) : ev_W C (pc, L, .int x :: .int i :: .ref (m0 + (1 + rf_r 39)) :: r, h) Q := ev_W.si 39 R.1 rfl hi hc hf (fun h' P E => k _ h' ⟨P, R.2.1.w7 x, R.2.2.1, R.2.2.2⟩ E)
theorem ev_W.p38 {x : Int32} (R : zR z m0 s p t h) (hc : c < 3) (hi : i = nI c) (hf : ev_find C pc = some (ev_fn (ev_iast nx))) (k : ∀ t' h', zR z m0 (tI s 8 c x) p t' h' → rf_E m0 h h' → ev_W C (nx, L, r, h') Q) : ev_W C (pc, L, .int x :: .int i :: .ref (m0 + (1 + rf_r 38)) :: r, h) Q := ev_W.si 38 R.1 rfl hi hc hf (fun h' P E => k _ h' ⟨P, R.2.1.w8 x, R.2.2.1, R.2.2.2⟩ E)
theorem ev_W.p41 {x : Int32} (R : zR z m0 s p t h) (hc : c < 3) (hi : i = nI c) (hf : ev_find C pc = some (ev_fn (ev_iast nx))) (k : ∀ t' h', zR z m0 (tI s 9 c x) p t' h' → rf_E m0 h h' → ev_W C (nx, L, r, h') Q) : ev_W C (pc, L, .int x :: .int i :: .ref (m0 + (1 + rf_r 41)) :: r, h) Q := ev_W.si 41 R.1 rfl hi hc hf (fun h' P E => k _ h' ⟨P, R.2.1.w9 x, R.2.2.1, R.2.2.2⟩ E)
theorem ev_W.p42 {x : Int32} (R : zR z m0 s p t h) (hc : c < 3) (hb : x = 0 ∨ x = 1) (hi : i = nI c) (hf : ev_find C pc = some (ev_fn (ev_zast nx))) (k : ∀ t' h', zR z m0 (tI s 10 c x) p t' h' → rf_E m0 h h' → ev_W C (nx, L, r, h') Q) : ev_W C (pc, L, .int x :: .int i :: .ref (m0 + (1 + rf_r 42)) :: r, h) Q := ev_W.sz 42 R.1 rfl hb hi hc hf (fun h' P E => k _ h' ⟨P, R.2.1.w10 x, R.2.2.1, R.2.2.2⟩ E)
theorem ev_W.p56 {x : Int32} (R : zR z m0 s p t h) (hc : c < 3) (hi : i = nI c) (hf : ev_find C pc = some (ev_fn (ev_iast nx))) (k : ∀ t' h', zR z m0 (tI s 11 c x) p t' h' → rf_E m0 h h' → ev_W C (nx, L, r, h') Q) : ev_W C (pc, L, .int x :: .int i :: .ref (m0 + (1 + rf_r 56)) :: r, h) Q := ev_W.si 56 R.1 rfl hi hc hf (fun h' P E => k _ h' ⟨P, R.2.1.w11 x, R.2.2.1, R.2.2.2⟩ E)
theorem ev_W.p57 {x : Int32} (R : zR z m0 s p t h) (hc : c < 3) (hi : i = nI c) (hf : ev_find C pc = some (ev_fn (ev_iast nx))) (k : ∀ t' h', zR z m0 (tI s 12 c x) p t' h' → rf_E m0 h h' → ev_W C (nx, L, r, h') Q) : ev_W C (pc, L, .int x :: .int i :: .ref (m0 + (1 + rf_r 57)) :: r, h) Q := ev_W.si 57 R.1 rfl hi hc hf (fun h' P E => k _ h' ⟨P, R.2.1.w12 x, R.2.2.1, R.2.2.2⟩ E)
theorem ev_W.p33 {v x : Int64} (R : zR z m0 s p t h) (hc : c < 3) (hv : x = tz_pl v) (hi : i = nI c) (hf : ev_find C pc = some (ev_fn (ev_last nx))) (k : ∀ t' h', zR z m0 (tJ s 0 c v) p t' h' → rf_E m0 h h' → ev_W C (nx, L, r, h') Q) : ev_W C (pc, L, .long x :: .int i :: .ref (m0 + (1 + rf_r 33)) :: r, h) Q := ev_W.sl 33 R.1 rfl hi hc hf (fun h' P E => k _ h' ⟨P, by rw [hv]; exact R.2.1.wj0 v, R.2.2.1, R.2.2.2⟩ E)
theorem ev_W.p40 {v x : Int64} (R : zR z m0 s p t h) (hc : c < 3) (hv : x = tz_pl v) (hi : i = nI c) (hf : ev_find C pc = some (ev_fn (ev_last nx))) (k : ∀ t' h', zR z m0 (tJ s 1 c v) p t' h' → rf_E m0 h h' → ev_W C (nx, L, r, h') Q) : ev_W C (pc, L, .long x :: .int i :: .ref (m0 + (1 + rf_r 40)) :: r, h) Q := ev_W.sl 40 R.1 rfl hi hc hf (fun h' P E => k _ h' ⟨P, by rw [hv]; exact R.2.1.wj1 v, R.2.2.1, R.2.2.2⟩ E)
theorem ev_W.p62 {v : Int32} (R : zR z m0 s p t h) (hf : ev_find C pc = some (ev_fn (ev_putf 12 62 .int nx))) (k : ∀ t' h', zR z m0 (tI s 14 0 v) p t' h' → rf_E m0 h h' → ev_W C (nx, L, r, h') Q) : ev_W C (pc, L, .int v :: .ref m0 :: r, h) Q := ev_W.sf62 R.1 hf (fun h' P E => k _ h' ⟨P, R.2.1.w14 v, R.2.2.1, R.2.2.2⟩ E)
theorem hb_add {k i : Nat} (hk : k < 512) (hi : i < 9) : ∀ j, j < 9 → hbit (hadd (nI k) (nI i)) (nI j) = (hbit (nI k) (nI j) || decide (j = i)) := by
  have : ∀ i, i < 9 → ∀ j, j < 9 → ∀ k, k < 512 → hbit (hadd (nI k) (nI i)) (nI j) = (hbit (nI k) (nI j) || decide (j = i)) := by decide +kernel
  exact fun j hj => this i hi j hj k hk
theorem hb_rem {k i : Nat} (hk : k < 512) (hi : i < 9) : ∀ j, j < 9 → hbit (hrem (nI k) (nI i)) (nI j) = (hbit (nI k) (nI j) && !decide (j = i)) := by
  have : ∀ i, i < 9 → ∀ j, j < 9 → ∀ k, k < 512 → hbit (hrem (nI k) (nI i)) (nI j) = (hbit (nI k) (nI j) && !decide (j = i)) := by decide +kernel
  exact fun j hj => this i hi j hj k hk
theorem ev_W.p30a {j : Nat} (R : zR z m0 s p t h) (hc : c < 3) (hj : j < 9) (hk : ∃ k, k < 512 ∧ sI s 4 c = nI k) (hi : i = nI (9 * c + j)) (hf : ev_find C pc = some (ev_fn (ev_zast nx))) (k : ∀ t' h', zR z m0 (tI s 4 c (hadd (sI s 4 c) (nI j))) p t' h' → rf_E m0 h h' → ev_W C (nx, L, r, h') Q) : ev_W C (pc, L, .int 1 :: .int i :: .ref (m0 + (1 + rf_r 30)) :: r, h) Q := by
  refine ev_W.sz 30 R.1 rfl (by decide) hi (show 9 * c + j < 27 by omega) hf (fun h' P E => k _ h' ⟨P, ?_, R.2.2.1, R.2.2.2⟩ E)
  refine R.2.1.h4w (c := c) (ag.rf.wI 1 (by unfold WH; omega)) rfl (fun n hn => ?_)
  obtain ⟨kk, hkk, ek⟩ := hk
  rw [uI_1, ek, hb_add hkk hj n hn, ← ek]
  by_cases e : n = j
  · subst e; simp [zb]
  · rw [if_neg (fun q => e (by omega)), R.2.1.h4 c hc n hn]; simp [e]
theorem ev_W.p30r {j : Nat} (R : zR z m0 s p t h) (hc : c < 3) (hj : j < 9) (hk : ∃ k, k < 512 ∧ sI s 4 c = nI k) (hi : i = nI (9 * c + j)) (hf : ev_find C pc = some (ev_fn (ev_zast nx))) (k : ∀ t' h', zR z m0 (tI s 4 c (hrem (sI s 4 c) (nI j))) p t' h' → rf_E m0 h h' → ev_W C (nx, L, r, h') Q) : ev_W C (pc, L, .int 0 :: .int i :: .ref (m0 + (1 + rf_r 30)) :: r, h) Q := by
  refine ev_W.sz 30 R.1 rfl (by decide) hi (show 9 * c + j < 27 by omega) hf (fun h' P E => k _ h' ⟨P, ?_, R.2.2.1, R.2.2.2⟩ E)
  refine R.2.1.h4w (c := c) (ag.rf.wI 0 (by unfold WH; omega)) rfl (fun n hn => ?_)
  obtain ⟨kk, hkk, ek⟩ := hk
  rw [uI_1, ek, hb_rem hkk hj n hn, ← ek]
  by_cases e : n = j
  · subst e; simp [zb]
  · rw [if_neg (fun q => e (by omega)), R.2.1.h4 c hc n hn]; simp [e]
theorem ev_W.p55a {j : Nat} (R : zR z m0 s p t h) (hc : c < 3) (hj : j < 9) (hk : ∃ k, k < 512 ∧ sI s 13 c = nI k) (hi : i = nI (9 * c + j)) (hf : ev_find C pc = some (ev_fn (ev_zast nx))) (k : ∀ t' h', zR z m0 (tI s 13 c (hadd (sI s 13 c) (nI j))) p t' h' → rf_E m0 h h' → ev_W C (nx, L, r, h') Q) : ev_W C (pc, L, .int 1 :: .int i :: .ref (m0 + (1 + rf_r 55)) :: r, h) Q := by
  refine ev_W.sz 55 R.1 rfl (by decide) hi (show 9 * c + j < 27 by omega) hf (fun h' P E => k _ h' ⟨P, ?_, R.2.2.1, R.2.2.2⟩ E)
  refine R.2.1.h13w (c := c) (ag.rf.wI 1 (by unfold WH; omega)) rfl (fun n hn => ?_)
  obtain ⟨kk, hkk, ek⟩ := hk
  rw [uI_1, ek, hb_add hkk hj n hn, ← ek]
  by_cases e : n = j
  · subst e; simp [zb]
  · rw [if_neg (fun q => e (by omega)), R.2.1.h13 c hc n hn]; simp [e]
theorem ev_W.p55r {j : Nat} (R : zR z m0 s p t h) (hc : c < 3) (hj : j < 9) (hk : ∃ k, k < 512 ∧ sI s 13 c = nI k) (hi : i = nI (9 * c + j)) (hf : ev_find C pc = some (ev_fn (ev_zast nx))) (k : ∀ t' h', zR z m0 (tI s 13 c (hrem (sI s 13 c) (nI j))) p t' h' → rf_E m0 h h' → ev_W C (nx, L, r, h') Q) : ev_W C (pc, L, .int 0 :: .int i :: .ref (m0 + (1 + rf_r 55)) :: r, h) Q := by
  refine ev_W.sz 55 R.1 rfl (by decide) hi (show 9 * c + j < 27 by omega) hf (fun h' P E => k _ h' ⟨P, ?_, R.2.2.1, R.2.2.2⟩ E)
  refine R.2.1.h13w (c := c) (ag.rf.wI 0 (by unfold WH; omega)) rfl (fun n hn => ?_)
  obtain ⟨kk, hkk, ek⟩ := hk
  rw [uI_1, ek, hb_rem hkk hj n hn, ← ek]
  by_cases e : n = j
  · subst e; simp [zb]
  · rw [if_neg (fun q => e (by omega)), R.2.1.h13 c hc n hn]; simp [e]
end ZR
