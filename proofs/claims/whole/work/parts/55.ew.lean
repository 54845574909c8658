/-! Rules for walks over the evaluator: branches, fields, arrays, calls. -/
theorem ev_W.br {C : ev_C} {pc : Nat} {L : ev_L} {stk : List Value} {h : ev_H} {f : ev_Fn} {s1 s2 : ev_S} {Q : ev_O → Prop} {P : Prop} {dc : Decidable P} (hf : ev_find C pc = some (ev_fn f)) (hx : f L stk h = @ite _ P dc (some (.inl s1)) (some (.inl s2))) (k1 : P → ev_W C s1 Q) (k2 : ¬ P → ev_W C s2 Q) : ev_W C (pc, L, stk, h) Q := by
  by_cases hP : P
  · exact ev_W.fn hf (by rw [hx, if_pos hP]) (k1 hP)
  · exact ev_W.fn hf (by rw [hx, if_neg hP]) (k2 hP)
theorem ev_W.brT {C : ev_C} {pc : Nat} {L : ev_L} {stk : List Value} {h : ev_H} {f : ev_Fn} {s1 s2 : ev_S} {Q : ev_O → Prop} {P : Prop} {dc : Decidable P} (hf : ev_find C pc = some (ev_fn f)) (hx : f L stk h = @ite _ P dc (some (.inl s1)) (some (.inl s2))) (hP : P) (k1 : ev_W C s1 Q) : ev_W C (pc, L, stk, h) Q := ev_W.fn hf (by rw [hx, if_pos hP]) k1
theorem ev_W.brF {C : ev_C} {pc : Nat} {L : ev_L} {stk : List Value} {h : ev_H} {f : ev_Fn} {s1 s2 : ev_S} {Q : ev_O → Prop} {P : Prop} {dc : Decidable P} (hf : ev_find C pc = some (ev_fn f)) (hx : f L stk h = @ite _ P dc (some (.inl s1)) (some (.inl s2))) (hP : ¬ P) (k1 : ev_W C s2 Q) : ev_W C (pc, L, stk, h) Q := ev_W.fn hf (by rw [hx, if_neg hP]) k1
-- a step under a guard
theorem ev_W.gd {C : ev_C} {pc : Nat} {L : ev_L} {stk : List Value} {h : ev_H} {f : ev_Fn} {s1 : ev_S} {Q : ev_O → Prop} {P : Prop} {dc : Decidable P} (hf : ev_find C pc = some (ev_fn f)) (hx : f L stk h = @ite _ P dc (some (.inl s1)) none) (hP : P) (k1 : ev_W C s1 Q) : ev_W C (pc, L, stk, h) Q := ev_W.fn hf (by rw [hx, if_pos hP]) k1
theorem ev_M.go {C : ev_C} {nL : Nat} {as : List Value} {h : ev_H} {L : ev_L} {Q : ev_O → Prop} (hl : Nat.ble (ev_lay as).length nL = true) (hL : ev_ent nL as = L) (k : ev_W C (0, L, [], h) Q) : ev_M (ev_met C nL) as h Q := ev_M.met (Nat.le_of_ble_eq_true hl) hL k
theorem ev_W.putf {C : ev_C} {pc ci k0 nx a : Nat} {ty : FieldType} {L : ev_L} {r : List Value} {h : ev_H} {v : Value} {fs : List Value} {Q : ev_O → Prop} (hf : ev_find C pc = some (ev_fn (ev_putf ci k0 ty nx))) (ha : h.2.2 a = some (.inr (ci, fs))) (hk : Nat.ble (k0 + 1) fs.length = true) (hn : narrow ty v = v) (ht : fits ty v = true) (k : ev_W C (nx, L, r, ev_put h a (.inr (ci, fs.set k0 v))) Q) : ev_W C (pc, L, v :: .ref a :: r, h) Q :=
  ev_W.fn hf (by simp only [ev_putf, ha]; rw [if_pos ⟨trivial, Nat.le_of_ble_eq_true hk, hn, ht⟩]) k
theorem ev_W.obj {C : ev_C} {pc ci k0 nx a : Nat} {L : ev_L} {r : List Value} {h : ev_H} {v : Value} {fs : List Value} {Q : ev_O → Prop} (hf : ev_find C pc = some (ev_fn (ev_getf ci k0 nx))) (ha : h.2.2 a = some (.inr (ci, fs))) (hv : fs[k0]? = some v) (k : ev_W C (nx, L, v :: r, h) Q) : ev_W C (pc, L, .ref a :: r, h) Q :=
  ev_W.getf hf (ev_fld_of ha hv) k
theorem nb_bool {x : Int32} (h : x = 0 ∨ x = 1) : narrow .boolean (.int x) = .int x := by rcases h with rfl | rfl <;> decide
theorem nb_nar {x : Int32} (h : x = 0 ∨ x = 1) : vp_nar .boolean x = x := by rcases h with rfl | rfl <;> decide
theorem ev_W.zret {C : ev_C} {pc : Nat} {L : ev_L} {h : ev_H} {x : Int32} {Q : ev_O → Prop} (hf : ev_find C pc = some (ev_fn (ev_zret .boolean))) (hb : x = 0 ∨ x = 1) (k : Q (some (.int x), h)) : ev_W C (pc, L, [.int x], h) Q :=
  ev_W.ret hf (by simp only [ev_zret]; rw [if_pos (nb_bool hb)]) k
def zb (b : Bool) : Int32 := if b then 1 else 0
theorem zb_01 (b : Bool) : zb b = 0 ∨ zb b = 1 := by cases b <;> simp [zb]
-- calls with the arguments as they lie
theorem ev_W.cl {C : ev_C} {pc : Nat} {L : ev_L} {stk : List Value} {h : ev_H} {F : ev_F} {na nx : Nat} {as rest : List Value} {Q : ev_O → Prop} (hf : ev_find C pc = some (ev_call F na nx)) (hn : Nat.ble na stk.length = true) (hs : Nat.ble ((stk.drop na).map fun v => v.category).sum 8 = true) (ha : (stk.take na).reverse = as) (hr : stk.drop na = rest)
    (k : ev_M F as h (fun o => ev_W C (nx, L, o.1.toList ++ rest, o.2) Q)) : ev_W C (pc, L, stk, h) Q := ev_W.call hf (Nat.le_of_ble_eq_true hn) (Nat.le_of_ble_eq_true hs) ha hr k
theorem ev_W.clR {C : ev_C} {pc : Nat} {L : ev_L} {stk : List Value} {h : ev_H} {F : ev_F} {ci na nx b : Nat} {As fs rest : List Value} {Q : ev_O → Prop} (hf : ev_find C pc = some (ev_callR ci F na nx)) (hn : Nat.ble na stk.length = true) (hs : Nat.ble ((stk.drop na).map fun v => v.category).sum 8 = true) (ha : (stk.take na).reverse = .ref b :: As) (hr : stk.drop na = rest) (hb : h.2.2 b = some (.inr (ci, fs)))
    (k : ev_M F (.ref b :: As) h (fun o => ev_W C (nx, L, o.1.toList ++ rest, o.2) Q)) : ev_W C (pc, L, stk, h) Q := ev_W.callR hf (Nat.le_of_ble_eq_true hn) (Nat.le_of_ble_eq_true hs) ha hr hb k
theorem ev_W.clI {C : ev_C} {pc : Nat} {L : ev_L} {stk : List Value} {h : ev_H} {F : ev_F} {na nx b : Nat} {As rest : List Value} {Q : ev_O → Prop} (hf : ev_find C pc = some (ev_callI F na nx)) (hn : Nat.ble na stk.length = true) (hs : Nat.ble ((stk.drop na).map fun v => v.category).sum 8 = true) (ha : (stk.take na).reverse = .ref b :: As) (hr : stk.drop na = rest)
    (k : ev_M F (.ref b :: As) h (fun o => ev_W C (nx, L, o.1.toList ++ rest, o.2) Q)) : ev_W C (pc, L, stk, h) Q := ev_W.callI hf (Nat.le_of_ble_eq_true hn) (Nat.le_of_ble_eq_true hs) ha hr k
-- arrays, by numbers
theorem nI_out {j n : Nat} (hj : j < n) (hn : n < 2 ^ 31) : ¬ (nI j < 0 ∨ n ≤ (nI j).toNatClampNeg) := nI_in hj hn
theorem ev_W.aaldN {C : ev_C} {pc nx a t n j : Nat} {L : ev_L} {r : List Value} {h : ev_H} {f : Nat → Option Nat} {i : Int32} {Q : ev_O → Prop} (hf : ev_find C pc = some (ev_fn (ev_aaldR nx))) (ha : h.2.2 a = some (.inl (t, n, .inr (.inr (.inr (.inr f)))))) (ht : 3 ≤ t ∧ t < 8) (hi : i = nI j) (hj : j < n) (hn : n < 2 ^ 31) (k : ev_W C (nx, L, va_rf (f j) :: r, h) Q) : ev_W C (pc, L, .int i :: .ref a :: r, h) Q := by
  subst hi
  refine ev_W.fn hf ?_ k
  simp only [ev_aaldR, ha]
  rw [if_pos ⟨ht, nI_out hj hn⟩, nI_clamp (by omega)]
theorem ev_W.aastN {C : ev_C} {pc nx a t n j v ci : Nat} {L : ev_L} {r fs : List Value} {h : ev_H} {f : Nat → Option Nat} {i : Int32} {Q : ev_O → Prop} (hf : ev_find C pc = some (ev_fn (ev_aastR nx))) (ha : h.2.2 a = some (.inl (t, n, .inr (.inr (.inr (.inr f)))))) (hv : h.2.2 v = some (.inr (ci, fs))) (ht : gw_ast t ci = true) (hi : i = nI j) (hj : j < n) (hn : n < 2 ^ 31) (k : ev_W C (nx, L, r, ev_put h a (.inl (t, n, .inr (.inr (.inr (.inr (va_up f j (some v)))))))) Q) : ev_W C (pc, L, .ref v :: .int i :: .ref a :: r, h) Q := by
  subst hi
  refine ev_W.fn hf ?_ k
  simp only [ev_aastR, ha, hv]
  rw [if_pos ⟨ht, nI_out hj hn⟩, nI_clamp (by omega)]
theorem ev_W.aast0 {C : ev_C} {pc nx a t n j : Nat} {L : ev_L} {r : List Value} {h : ev_H} {f : Nat → Option Nat} {i : Int32} {Q : ev_O → Prop} (hf : ev_find C pc = some (ev_fn (ev_aastR nx))) (ha : h.2.2 a = some (.inl (t, n, .inr (.inr (.inr (.inr f)))))) (ht : 3 ≤ t ∧ t < 8) (hi : i = nI j) (hj : j < n) (hn : n < 2 ^ 31) (k : ev_W C (nx, L, r, ev_put h a (.inl (t, n, .inr (.inr (.inr (.inr (va_up f j none))))))) Q) : ev_W C (pc, L, .null :: .int i :: .ref a :: r, h) Q := by
  subst hi
  refine ev_W.fn hf ?_ k
  simp only [ev_aastR, ha]
  rw [if_pos ⟨ht, nI_out hj hn⟩, nI_clamp (by omega)]
theorem ev_W.ialdN {C : ev_C} {pc nx a n j : Nat} {L : ev_L} {r : List Value} {h : ev_H} {f : Nat → Int32} {i : Int32} {Q : ev_O → Prop} (hf : ev_find C pc = some (ev_fn (ev_iald nx))) (ha : h.2.2 a = some (.inl (0, n, .inl f))) (hi : i = nI j) (hj : j < n) (hn : n < 2 ^ 31) (k : ev_W C (nx, L, .int (f j) :: r, h) Q) : ev_W C (pc, L, .int i :: .ref a :: r, h) Q := by
  subst hi
  refine ev_W.fn hf ?_ k
  simp only [ev_iald, ha]
  rw [if_pos ⟨trivial, nI_out hj hn⟩, nI_clamp (by omega)]
theorem ev_W.laldN {C : ev_C} {pc nx a n j : Nat} {L : ev_L} {r : List Value} {h : ev_H} {f : Nat → Int64} {i : Int32} {Q : ev_O → Prop} (hf : ev_find C pc = some (ev_fn (ev_lald nx))) (ha : h.2.2 a = some (.inl (1, n, .inr (.inl f)))) (hi : i = nI j) (hj : j < n) (hn : n < 2 ^ 31) (k : ev_W C (nx, L, .long (f j) :: r, h) Q) : ev_W C (pc, L, .int i :: .ref a :: r, h) Q := by
  subst hi
  refine ev_W.fn hf ?_ k
  simp only [ev_lald, ha]
  rw [if_pos ⟨trivial, nI_out hj hn⟩, nI_clamp (by omega)]
theorem ev_W.zaldN {C : ev_C} {pc nx a n j : Nat} {L : ev_L} {r : List Value} {h : ev_H} {f : Nat → Int32} {i : Int32} {Q : ev_O → Prop} (hf : ev_find C pc = some (ev_fn (ev_zald nx))) (ha : h.2.2 a = some (.inl (2, n, .inl f))) (hi : i = nI j) (hj : j < n) (hn : n < 2 ^ 31) (k : ev_W C (nx, L, .int (f j) :: r, h) Q) : ev_W C (pc, L, .int i :: .ref a :: r, h) Q := by
  subst hi
  refine ev_W.fn hf ?_ k
  simp only [ev_zald, ha]
  rw [if_pos ⟨trivial, nI_out hj hn⟩, nI_clamp (by omega)]
theorem ev_W.iastN {C : ev_C} {pc nx a n j : Nat} {L : ev_L} {r : List Value} {h : ev_H} {f : Nat → Int32} {i x : Int32} {Q : ev_O → Prop} (hf : ev_find C pc = some (ev_fn (ev_iast nx))) (ha : h.2.2 a = some (.inl (0, n, .inl f))) (hi : i = nI j) (hj : j < n) (hn : n < 2 ^ 31) (k : ev_W C (nx, L, r, ev_put h a (.inl (0, n, .inl (va_up f j x)))) Q) : ev_W C (pc, L, .int x :: .int i :: .ref a :: r, h) Q := by
  subst hi
  refine ev_W.fn hf ?_ k
  simp only [ev_iast, ha]
  rw [if_pos ⟨trivial, nI_out hj hn⟩, nI_clamp (by omega)]
theorem ev_W.lastN {C : ev_C} {pc nx a n j : Nat} {L : ev_L} {r : List Value} {h : ev_H} {f : Nat → Int64} {i : Int32} {x : Int64} {Q : ev_O → Prop} (hf : ev_find C pc = some (ev_fn (ev_last nx))) (ha : h.2.2 a = some (.inl (1, n, .inr (.inl f)))) (hi : i = nI j) (hj : j < n) (hn : n < 2 ^ 31) (k : ev_W C (nx, L, r, ev_put h a (.inl (1, n, .inr (.inl (va_up f j x))))) Q) : ev_W C (pc, L, .long x :: .int i :: .ref a :: r, h) Q := by
  subst hi
  refine ev_W.fn hf ?_ k
  simp only [ev_last, ha]
  rw [if_pos ⟨trivial, nI_out hj hn⟩, nI_clamp (by omega)]
theorem ev_W.zastN {C : ev_C} {pc nx a n j : Nat} {L : ev_L} {r : List Value} {h : ev_H} {f : Nat → Int32} {i x : Int32} {Q : ev_O → Prop} (hf : ev_find C pc = some (ev_fn (ev_zast nx))) (ha : h.2.2 a = some (.inl (2, n, .inl f))) (hb : x = 0 ∨ x = 1) (hi : i = nI j) (hj : j < n) (hn : n < 2 ^ 31) (k : ev_W C (nx, L, r, ev_put h a (.inl (2, n, .inl (va_up f j x)))) Q) : ev_W C (pc, L, .int x :: .int i :: .ref a :: r, h) Q := by
  subst hi
  refine ev_W.fn hf ?_ k
  simp only [ev_zast, ha]
  rw [if_pos ⟨trivial, nI_out hj hn, nb_nar hb⟩, nI_clamp (by omega)]
theorem ev_W.alenA {C : ev_C} {pc e0 K nx a t : Nat} {x : vp_A} {L : ev_L} {r : List Value} {h : ev_H} {Q : ev_O → Prop} (hf : ev_find C pc = some (ev_fn (ev_alenE e0 K nx))) (hne : a ≠ e0) (ha : h.2.2 a = some (.inl (t, x))) (ht : t < K) (k : ev_W C (nx, L, .int (nI x.1) :: r, h) Q) : ev_W C (pc, L, .ref a :: r, h) Q := by
  refine ev_W.fn hf ?_ k
  simp only [ev_alenE, ha, if_neg hne, if_pos ht]
  rfl
theorem ev_W.alen0 {C : ev_C} {pc e0 K nx : Nat} {L : ev_L} {r : List Value} {h : ev_H} {Q : ev_O → Prop} (hf : ev_find C pc = some (ev_fn (ev_alenE e0 K nx))) (k : ev_W C (nx, L, .int 0 :: r, h) Q) : ev_W C (pc, L, .ref e0 :: r, h) Q := by
  refine ev_W.fn hf ?_ k
  simp only [ev_alenE, if_pos]
theorem ev_W.newqN {C : ev_C} {pc t nx n : Nat} {i : Int32} {L : ev_L} {r : List Value} {h : ev_H} {Q : ev_O → Prop} (hf : ev_find C pc = some (ev_fn (ev_newq t nx))) (hi : i = nI n) (hn : n ≤ 65536) (k : ev_W C (nx, L, .ref h.1 :: r, ev_new h n (.inl (t, n, .inr (.inr (.inr (.inr (fun _ => none))))))) Q) : ev_W C (pc, L, .int i :: r, h) Q := by
  subst hi
  refine ev_W.fn hf ?_ k
  simp only [ev_newq]
  rw [nI_clamp (by omega), if_pos ⟨nI_pos (by omega), by omega⟩]
theorem ev_W.cast {C : ev_C} {pc ci nx a : Nat} {fs : List Value} {L : ev_L} {r : List Value} {h : ev_H} {Q : ev_O → Prop} (hf : ev_find C pc = some (ev_fn (ev_castS ci nx))) (ha : h.2.2 a = some (.inr (ci, fs))) (k : ev_W C (nx, L, .ref a :: r, h) Q) : ev_W C (pc, L, .ref a :: r, h) Q := by
  refine ev_W.fn hf ?_ k
  simp only [ev_castS, ha, if_pos]
theorem ev_W.copy {C : ev_C} {pc t nx a0 a1 n0 n1 n dp sp : Nat} {cs : List Nat} {f g : Nat → Option Nat} {L : ev_L} {r : List Value} {h : ev_H} {i0 i1 i2 : Int32} {Q : ev_O → Prop} (hf : ev_find C pc = some (ev_copyq t cs nx)) (h0 : h.2.2 a0 = some (.inl (t, n0, .inr (.inr (.inr (.inr f)))))) (h1 : h.2.2 a1 = some (.inl (t, n1, .inr (.inr (.inr (.inr g)))))) (e0 : i0 = nI n) (e1 : i1 = nI dp) (e2 : i2 = nI sp) (hn0 : n0 < 2 ^ 31) (hn1 : n1 < 2 ^ 31) (hs : sp + n ≤ n0) (hd : dp + n ≤ n1) (hel : ∀ i : Nat, i < n → ∀ y : Nat, f (sp + i) = some y → ∃ (ci : Nat) (fs : List Value), h.2.2 y = some (.inr (ci, fs)) ∧ ci ∈ cs) (hr : Nat.ble (r.map fun v => v.category).sum 8 = true)
    (k : ev_W C (nx, L, r, ev_put h a1 (.inl (t, n1, .inr (.inr (.inr (.inr (va_cpy f g sp dp n))))))) Q) : ev_W C (pc, L, .int i0 :: .int i1 :: .ref a1 :: .int i2 :: .ref a0 :: r, h) Q := by
  subst e0 e1 e2
  obtain ⟨m, o, hrn, hq⟩ := k
  refine ⟨m + 1, o, ⟨_, hf, Or.inl ⟨_, ⟨nI n, nI dp, nI sp, a1, a0, r, n0, n1, f, g, rfl, h0, h1, nI_pos (by omega), nI_pos (by omega), nI_pos (by omega), ?_, ?_, ?_, Nat.le_of_ble_eq_true hr, rfl⟩, ?_⟩⟩, hq⟩
  · rw [nI_clamp (by omega), nI_clamp (by omega)]; exact hs
  · rw [nI_clamp (by omega), nI_clamp (by omega)]; exact hd
  · rw [nI_clamp (by omega), nI_clamp (by omega)]; exact hel
  · rw [nI_clamp (by omega), nI_clamp (by omega), nI_clamp (by omega)]; exact hrn
