/-! What is proved of the evaluator's runs: goal first, as with the machine, over states of the evaluator alone. -/
def ev_W (C : ev_C) (st : ev_S) (Q : ev_O → Prop) : Prop := ∃ n o, ev_run C n st o ∧ Q o
def ev_M (F : ev_F) (as : List Value) (h : ev_H) (Q : ev_O → Prop) : Prop := ∃ o, F as h o ∧ Q o
theorem ev_W.fn {C : ev_C} {pc : Nat} {L : ev_L} {stk : List Value} {h : ev_H} {f : ev_Fn} {st' : ev_S} {Q : ev_O → Prop} (hf : ev_find C pc = some (ev_fn f)) (hx : f L stk h = some (.inl st')) (k : ev_W C st' Q) : ev_W C (pc, L, stk, h) Q := by
  obtain ⟨n, o, hr, hq⟩ := k
  exact ⟨n + 1, o, ⟨ev_fn f, hf, Or.inl ⟨st', hx, hr⟩⟩, hq⟩
theorem ev_W.ret {C : ev_C} {pc : Nat} {L : ev_L} {stk : List Value} {h : ev_H} {f : ev_Fn} {o : ev_O} {Q : ev_O → Prop} (hf : ev_find C pc = some (ev_fn f)) (hx : f L stk h = some (.inr o)) (k : Q o) : ev_W C (pc, L, stk, h) Q := ⟨1, o, ⟨ev_fn f, hf, Or.inr hx⟩, k⟩
theorem ev_W.call {C : ev_C} {pc : Nat} {L : ev_L} {stk : List Value} {h : ev_H} {F : ev_F} {na nx : Nat} {as rest : List Value} {Q : ev_O → Prop} (hf : ev_find C pc = some (ev_call F na nx)) (hn : na ≤ stk.length) (hs : ((stk.drop na).map fun v => v.category).sum ≤ 8) (ha : (stk.take na).reverse = as) (hr : stk.drop na = rest)
    (k : ev_M F as h (fun o => ev_W C (nx, L, o.1.toList ++ rest, o.2) Q)) : ev_W C (pc, L, stk, h) Q := by
  subst ha hr
  obtain ⟨o, hF, n, o2, hr, hq⟩ := k
  exact ⟨n + 1, o2, ⟨_, hf, Or.inl ⟨_, ⟨o, hn, hs, hF, rfl⟩, hr⟩⟩, hq⟩
theorem ev_W.callR {C : ev_C} {pc : Nat} {L : ev_L} {stk : List Value} {h : ev_H} {F : ev_F} {ci na nx b : Nat} {As fs rest : List Value} {Q : ev_O → Prop} (hf : ev_find C pc = some (ev_callR ci F na nx)) (hn : na ≤ stk.length) (hs : ((stk.drop na).map fun v => v.category).sum ≤ 8) (ha : (stk.take na).reverse = .ref b :: As) (hr : stk.drop na = rest) (hb : h.2.2 b = some (.inr (ci, fs)))
    (k : ev_M F (.ref b :: As) h (fun o => ev_W C (nx, L, o.1.toList ++ rest, o.2) Q)) : ev_W C (pc, L, stk, h) Q := by
  subst hr
  obtain ⟨o, hF, n, o2, hr, hq⟩ := k
  exact ⟨n + 1, o2, ⟨_, hf, Or.inl ⟨_, ⟨o, b, As, fs, hn, hs, ha, hb, by rw [ha]; exact hF, rfl⟩, hr⟩⟩, hq⟩
theorem ev_W.callI {C : ev_C} {pc : Nat} {L : ev_L} {stk : List Value} {h : ev_H} {F : ev_F} {na nx b : Nat} {As rest : List Value} {Q : ev_O → Prop} (hf : ev_find C pc = some (ev_callI F na nx)) (hn : na ≤ stk.length) (hs : ((stk.drop na).map fun v => v.category).sum ≤ 8) (ha : (stk.take na).reverse = .ref b :: As) (hr : stk.drop na = rest)
    (k : ev_M F (.ref b :: As) h (fun o => ev_W C (nx, L, o.1.toList ++ rest, o.2) Q)) : ev_W C (pc, L, stk, h) Q := by
  subst hr
  obtain ⟨o, hF, n, o2, hr, hq⟩ := k
  exact ⟨n + 1, o2, ⟨_, hf, Or.inl ⟨_, ⟨o, b, As, hn, hs, ha, by rw [ha]; exact hF, rfl⟩, hr⟩⟩, hq⟩
theorem ev_M.met {C : ev_C} {nL : Nat} {as : List Value} {h : ev_H} {L : ev_L} {Q : ev_O → Prop} (hl : (ev_lay as).length ≤ nL) (hL : ev_ent nL as = L) (k : ev_W C (0, L, [], h) Q) : ev_M (ev_met C nL) as h Q := by
  subst hL
  obtain ⟨n, o, hr, hq⟩ := k
  exact ⟨o, ⟨hl, n, hr⟩, hq⟩
theorem ev_M.mono {F : ev_F} {as : List Value} {h : ev_H} {Q Q' : ev_O → Prop} (k : ev_M F as h Q) (hQ : ∀ o, Q o → Q' o) : ev_M F as h Q' := by
  obtain ⟨o, hr, hq⟩ := k
  exact ⟨o, hr, hQ o hq⟩
theorem ev_W.mono {C : ev_C} {st : ev_S} {Q Q' : ev_O → Prop} (k : ev_W C st Q) (hQ : ∀ o, Q o → Q' o) : ev_W C st Q' := by
  obtain ⟨n, o, hr, hq⟩ := k
  exact ⟨n, o, hr, hQ o hq⟩
theorem ev_W.getf {C : ev_C} {pc ci k0 nx a : Nat} {L : ev_L} {r : List Value} {h : ev_H} {v : Value} {Q : ev_O → Prop} (hf : ev_find C pc = some (ev_fn (ev_getf ci k0 nx))) (hv : ev_fld h.2.2 a ci k0 = some v) (k : ev_W C (nx, L, v :: r, h) Q) : ev_W C (pc, L, .ref a :: r, h) Q :=
  ev_W.fn hf (by simp only [ev_getf, hv]) k
-- reading a picture that was written
theorem ev_fld_of {f : Nat → Option ev_E} {a ci k : Nat} {fs : List Value} {v : Value} (h : f a = some (.inr (ci, fs))) (hk : fs[k]? = some v) : ev_fld f a ci k = some v := by
  simp only [ev_fld, h, if_pos, hk]
theorem ev_put_same {h : ev_H} {a : Nat} {x : ev_E} : (ev_put h a x).2.2 a = some x := by simp [ev_put, ev_upd]
theorem ev_put_ne {h : ev_H} {a b : Nat} {x : ev_E} (hne : b ≠ a) : (ev_put h a x).2.2 b = h.2.2 b := by simp [ev_put, ev_upd, hne]
theorem ev_new_same {h : ev_H} {k : Nat} {x : ev_E} : (ev_new h k x).2.2 h.1 = some x := by simp [ev_new, ev_upd]
theorem ev_new_ne {h : ev_H} {k b : Nat} {x : ev_E} (hne : b ≠ h.1) : (ev_new h k x).2.2 b = h.2.2 b := by simp [ev_new, ev_upd, hne]
