/-! Math.min and Math.max of ints. -/
section MMO
variable {l : Launch} {cl : List vw_C} {tyL : List FieldType} {G : Nat → (State → Prop) → Prop} {cc : ByteArray} {nL : Nat} {ret : Option FieldType} {nm own : String} {Ts : List Cond} {d wd pc : Nat}
theorem ev_pureC {f : ev_Fn} (hp : ∀ (L : ev_L) (stk : List Value) (h : ev_H) (x : ev_S ⊕ ev_O), f L stk h = some x → ∃ (nx : Nat) (stk' : List Value), x = .inl (nx, L, stk', h) ∧
      ∀ (p : Program) (e : Env) (R : Room) (s : State) (m : MethodId) (args : Array Value) (below : List Frame) (meth : Method) (c : Code) (D : va_G) (cA : Nat → ClassId) (lo : Nat) (O : State → Prop), ev_ctx p l e R s m args below meth c cc nL ret nm own Ts D cl cA tyL lo O G d wd →
        ∀ (H : Heap) (locs : List Loc) (cells slots : Nat) (ls : Array Slot) (Q : State → Prop), ev_lv ls nL L → cells ≤ R.cells → slots ≤ R.slots → W p l e R s m args below meth c H locs cells slots Q (F0 m nx ls stk') → W p l e R s m args below meth c H locs cells slots Q (F0 m pc ls stk)) :
    ev_Good l cl tyL G cc nL ret nm own Ts d wd pc (ev_fn f) := by
  refine ⟨fun L stk h => ⟨fun st' e1 => ?_, fun o e1 => ?_⟩, fun p e R s m args below meth c D cA lo O b0 oE X => ⟨fun L stk h g1 g2 Q st' e1 r1 r2 k => ?_, fun L stk h g1 g2 e1 => ?_⟩⟩
  · obtain ⟨nx, stk', hx, -⟩ := hp L stk h _ e1
    cases hx
    exact ⟨Nat.le_refl _, Nat.le_refl _⟩
  · obtain ⟨nx, stk', hx, -⟩ := hp L stk h _ e1
    cases hx
  · obtain ⟨nx, stk', hx, hw⟩ := hp L stk h _ e1
    cases hx
    intro H locs ls a1 a2 a3 a4 a5 a6
    exact hw p e R s m args below meth c D cA lo O X H locs _ _ ls _ a6 r1 r2 (k H locs ls a1 a2 a3 a4 a5 a6)
  · obtain ⟨nx, stk', hx, -⟩ := hp L stk h _ e1
    cases hx
def ev_mmax (nx : Nat) : ev_Fn := fun L stk h => match stk with
  | .int y :: .int x :: r => if (r.map fun v => v.category).sum ≤ 8 then some (.inl (nx, L, .int (if x < y then y else x) :: r, h)) else none
  | _ => none
theorem ok_mmax {ix : Nat} (hd0 : 1 ≤ d) (hw0 : 21 ≤ wd) (w1 : Cond.methodLink own ix Lib.Math.max.name ∈ Ts) (w2 : Cond.static Lib.Math.max.name ∈ Ts) (w3 : Cond.initialized "java/lang/Math" ∈ Ts) (w4 : Cond.code Lib.Math.max.name Lib.Math.max.code 2 (some .int) ∈ Ts) (hd : decode cc pc = .ok (.invokestatic ix, 3)) : ev_Good l cl tyL G cc nL ret nm own Ts d wd pc (ev_fn (ev_mmax (pc + 3))) := by
  refine ev_pureC fun L stk h x hx => ?_
  unfold ev_mmax at hx
  split at hx
  · rename_i y x0 r
    split at hx
    · rename_i hg
      cases hx
      exact ⟨_, _, rfl, fun p e R s m args below meth c D cA lo O X H locs cells slots ls Q hl hc hs k => va_mmax X.1.1 X.1.2.1 (by rw [X.1.2.2.1, hl.1]) X.1.2.2.2.1 (X.1.2.2.2.2.1 _ w1) (X.1.2.2.2.2.1 _ w2) (X.1.2.2.2.2.1 _ w3) (X.1.2.2.2.2.1 _ w4) (Nat.le_trans hd0 X.2.2.2.2.2.1) (Nat.le_trans (by omega) X.2.2.2.2.2.2) hc hs hd k⟩
    · cases hx
  · cases hx
def ev_mmin (nx : Nat) : ev_Fn := fun L stk h => match stk with
  | .int y :: .int x :: r => if (r.map fun v => v.category).sum ≤ 8 then some (.inl (nx, L, .int (if y < x then y else x) :: r, h)) else none
  | _ => none
theorem ok_mmin {ix : Nat} (hd0 : 1 ≤ d) (hw0 : 21 ≤ wd) (w1 : Cond.methodLink own ix Lib.Math.min.name ∈ Ts) (w2 : Cond.static Lib.Math.min.name ∈ Ts) (w3 : Cond.initialized "java/lang/Math" ∈ Ts) (w4 : Cond.code Lib.Math.min.name Lib.Math.min.code 2 (some .int) ∈ Ts) (hd : decode cc pc = .ok (.invokestatic ix, 3)) : ev_Good l cl tyL G cc nL ret nm own Ts d wd pc (ev_fn (ev_mmin (pc + 3))) := by
  refine ev_pureC fun L stk h x hx => ?_
  unfold ev_mmin at hx
  split at hx
  · rename_i y x0 r
    split at hx
    · rename_i hg
      cases hx
      exact ⟨_, _, rfl, fun p e R s m args below meth c D cA lo O X H locs cells slots ls Q hl hc hs k => va_mmin X.1.1 X.1.2.1 (by rw [X.1.2.2.1, hl.1]) X.1.2.2.2.1 (X.1.2.2.2.2.1 _ w1) (X.1.2.2.2.2.1 _ w2) (X.1.2.2.2.2.1 _ w3) (X.1.2.2.2.2.1 _ w4) (Nat.le_trans hd0 X.2.2.2.2.2.1) (Nat.le_trans (by omega) X.2.2.2.2.2.2) hc hs hd k⟩
    · cases hx
  · cases hx
end MMO
