/-! Steps that store locals, read and write the heap, make cells, call, and end. -/
theorem ev_P1 {D : va_G} {cl : List vw_C} {q : Nat × va_E} {H : Heap} (h : va_at D cl q H) : va_P D cl [q] H := by
  intro k x hk
  cases k with
  | zero => cases hk; exact h
  | succ k => simp at hk
section HOPS
variable {l : Launch} {cl : List vw_C} {tyL : List FieldType} {G : Nat → (State → Prop) → Prop} {cc : ByteArray} {nL : Nat} {ret : Option FieldType} {nm own : String} {Ts : List Cond} {d wd pc : Nat}
theorem ev_loc {f : ev_Fn} (hp : ∀ (L : ev_L) (stk : List Value) (h : ev_H) (x : ev_S ⊕ ev_O), f L stk h = some x → ∃ (nx : Nat) (L' : ev_L) (stk' : List Value), x = .inl (nx, L', stk', h) ∧
      ∀ (p : Program) (e : Env) (R : Room) (s : State) (m : MethodId) (args : Array Value) (below : List Frame) (meth : Method) (c : Code) (D : va_G) (cA : Nat → ClassId) (lo : Nat) (O : State → Prop), ev_ctx p l e R s m args below meth c cc nL ret nm own Ts D cl cA tyL lo O G d wd →
        ∀ (H : Heap) (locs : List Loc) (cells slots : Nat) (ls : Array Slot) (Q : State → Prop), ev_lv ls nL L → (∀ ls' : Array Slot, ev_lv ls' nL L' → W p l e R s m args below meth c H locs cells slots Q (F0 m nx ls' stk')) → W p l e R s m args below meth c H locs cells slots Q (F0 m pc ls stk)) :
    ev_Good l cl tyL G cc nL ret nm own Ts d wd pc (ev_fn f) := by
  refine ⟨fun L stk h => ⟨fun st' e1 => ?_, fun o e1 => ?_⟩, fun p e R s m args below meth c D cA lo O b0 oE X => ⟨fun L stk h g1 g2 Q st' e1 r1 r2 k => ?_, fun L stk h g1 g2 e1 => ?_⟩⟩
  · obtain ⟨nx, L', stk', hx, -⟩ := hp L stk h _ e1
    cases hx
    exact ⟨Nat.le_refl _, Nat.le_refl _⟩
  · obtain ⟨nx, L', stk', hx, -⟩ := hp L stk h _ e1
    cases hx
  · obtain ⟨nx, L', stk', hx, hw⟩ := hp L stk h _ e1
    cases hx
    intro H locs ls a1 a2 a3 a4 a5 a6
    exact hw p e R s m args below meth c D cA lo O X H locs _ _ ls _ a6 (fun ls' h' => k H locs ls' a1 a2 a3 a4 a5 h')
  · obtain ⟨nx, L', stk', hx, -⟩ := hp L stk h _ e1
    cases hx
def ev_istore (i nx : Nat) : ev_Fn := fun L stk h => match stk with
  | .int x :: r => some (.inl (nx, ev_sto1 L i (.int x), r, h))
  | _ => none
theorem ok_istore_n {z : Fin 4} {i : Nat} (hn : i < nL) (hd : decode cc pc = .ok (.istore_n z, 1)) (hi : (z : Nat) = i) : ev_Good l cl tyL G cc nL ret nm own Ts d wd pc (ev_fn (ev_istore i (pc + 1))) := by
  refine ev_loc fun L stk h x hx => ?_
  unfold ev_istore at hx
  split at hx
  · cases hx; exact ⟨_, _, _, rfl, fun p e R s m args below meth c D cA lo O X H locs cells slots ls Q hl k => lv_istore_n X.1.1 X.1.2.1 hd hi hl.has hn rfl (fun ls' h' => k ls' (ev_lv.sto1 h'))⟩
  · cases hx
theorem ok_istore {i : Nat} (hn : i < nL) (hd : decode cc pc = .ok (.istore i, 2)) : ev_Good l cl tyL G cc nL ret nm own Ts d wd pc (ev_fn (ev_istore i (pc + 2))) := by
  refine ev_loc fun L stk h x hx => ?_
  unfold ev_istore at hx
  split at hx
  · cases hx; exact ⟨_, _, _, rfl, fun p e R s m args below meth c D cA lo O X H locs cells slots ls Q hl k => lv_istore X.1.1 X.1.2.1 hd hl.has hn rfl (fun ls' h' => k ls' (ev_lv.sto1 h'))⟩
  · cases hx
def ev_lstore (i nx : Nat) : ev_Fn := fun L stk h => match stk with
  | .long x :: r => some (.inl (nx, ev_sto2 L i (.long x), r, h))
  | _ => none
theorem ok_lstore_n {z : Fin 4} {i : Nat} (hn : i + 1 < nL) (hd : decode cc pc = .ok (.lstore_n z, 1)) (hi : (z : Nat) = i) : ev_Good l cl tyL G cc nL ret nm own Ts d wd pc (ev_fn (ev_lstore i (pc + 1))) := by
  refine ev_loc fun L stk h x hx => ?_
  unfold ev_lstore at hx
  split at hx
  · cases hx; exact ⟨_, _, _, rfl, fun p e R s m args below meth c D cA lo O X H locs cells slots ls Q hl k => lv_lstore_n X.1.1 X.1.2.1 hd hi hl.has hn rfl (fun ls' h' => k ls' (ev_lv.sto2 h'))⟩
  · cases hx
theorem ok_lstore {i : Nat} (hn : i + 1 < nL) (hd : decode cc pc = .ok (.lstore i, 2)) : ev_Good l cl tyL G cc nL ret nm own Ts d wd pc (ev_fn (ev_lstore i (pc + 2))) := by
  refine ev_loc fun L stk h x hx => ?_
  unfold ev_lstore at hx
  split at hx
  · cases hx; exact ⟨_, _, _, rfl, fun p e R s m args below meth c D cA lo O X H locs cells slots ls Q hl k => lv_lstore X.1.1 X.1.2.1 hd hl.has hn rfl (fun ls' h' => k ls' (ev_lv.sto2 h'))⟩
  · cases hx
def ev_astore (i nx : Nat) : ev_Fn := fun L stk h => match stk with
  | .ref x :: r => some (.inl (nx, ev_sto1 L i (.ref x), r, h))
  | .null :: r => some (.inl (nx, ev_sto1 L i .null, r, h))
  | _ => none
theorem ok_astore_n {z : Fin 4} {i : Nat} (hn : i < nL) (hd : decode cc pc = .ok (.astore_n z, 1)) (hi : (z : Nat) = i) : ev_Good l cl tyL G cc nL ret nm own Ts d wd pc (ev_fn (ev_astore i (pc + 1))) := by
  refine ev_loc fun L stk h x hx => ?_
  unfold ev_astore at hx
  split at hx
  · cases hx; exact ⟨_, _, _, rfl, fun p e R s m args below meth c D cA lo O X H locs cells slots ls Q hl k => lv_astore_n X.1.1 X.1.2.1 hd hi hl.has hn rfl (fun ls' h' => k ls' (ev_lv.sto1 h'))⟩
  · cases hx; exact ⟨_, _, _, rfl, fun p e R s m args below meth c D cA lo O X H locs cells slots ls Q hl k => lv_astore_nN X.1.1 X.1.2.1 hd hi hl.has hn rfl (fun ls' h' => k ls' (ev_lv.sto1 h'))⟩
  · cases hx
theorem ok_astore {i : Nat} (hn : i < nL) (hd : decode cc pc = .ok (.astore i, 2)) : ev_Good l cl tyL G cc nL ret nm own Ts d wd pc (ev_fn (ev_astore i (pc + 2))) := by
  refine ev_loc fun L stk h x hx => ?_
  unfold ev_astore at hx
  split at hx
  · cases hx; exact ⟨_, _, _, rfl, fun p e R s m args below meth c D cA lo O X H locs cells slots ls Q hl k => lv_astore X.1.1 X.1.2.1 hd hl.has hn rfl (fun ls' h' => k ls' (ev_lv.sto1 h'))⟩
  · cases hx; exact ⟨_, _, _, rfl, fun p e R s m args below meth c D cA lo O X H locs cells slots ls Q hl k => lv_astoreN X.1.1 X.1.2.1 hd hl.has hn rfl (fun ls' h' => k ls' (ev_lv.sto1 h'))⟩
  · cases hx
def ev_iinc (i : Nat) (v : Int32) (nx : Nat) : ev_Fn := fun L stk h => match ev_at L i with
  | some (.int x) => some (.inl (nx, ev_sto1 L i (.int (x + v)), stk, h))
  | _ => none
theorem ok_iinc {i : Nat} {z : Int} {v : Int32} (hn : i < nL) (hd : decode cc pc = .ok (.iinc i z, 3)) (hz : Int32.ofInt z = v) : ev_Good l cl tyL G cc nL ret nm own Ts d wd pc (ev_fn (ev_iinc i v (pc + 3))) := by
  refine ev_loc fun L stk h x hx => ?_
  unfold ev_iinc at hx
  split at hx
  · rename_i x0 hv
    cases hx
    obtain ⟨k0, hk0⟩ := List.getElem?_of_mem ((ev_mem_lst L 0 (i, .int x0)).mpr ⟨i, by simp, hv⟩)
    exact ⟨_, _, _, rfl, fun p e R s m args below meth c D cA lo O X H locs cells slots ls Q hl k => lv_iinc X.1.1 X.1.2.1 hd hl.has hk0 (by rw [hz]) hn rfl (fun ls' h' => k ls' (ev_lv.sto1 h'))⟩
  · cases hx
-- ends
theorem ev_end {f : ev_Fn} (hp : ∀ (L : ev_L) (stk : List Value) (h : ev_H) (x : ev_S ⊕ ev_O), f L stk h = some x → ∃ v : Option Value, x = .inr (v, h) ∧
      ∀ (p : Program) (e : Env) (R : Room) (s : State) (m : MethodId) (args : Array Value) (below : List Frame) (meth : Method) (c : Code) (H : Heap) (locs : List Loc) (cells slots : Nat) (ls : Array Slot) (Qc : Array Value → State → Outcome → State → Prop) (free : Addr → Prop), ev_X p s m args meth c cc nL ret nm own Ts →
        (∀ t : State, t.heap = H → s.WarmedH t.vm → Qc args s (.returned v) t) → (∀ q ∈ locs, free q.base) → W p l e R s m args below meth c H locs cells slots (MQ below Qc args s cells slots free) (F0 m pc ls stk)) :
    ev_Good l cl tyL G cc nL ret nm own Ts d wd pc (ev_fn f) := by
  refine ⟨fun L stk h => ⟨fun st' e1 => ?_, fun o e1 => ?_⟩, fun p e R s m args below meth c D cA lo O b0 oE X => ⟨fun L stk h g1 g2 Q st' e1 r1 r2 k => ?_, fun L stk h g1 g2 e1 => ?_⟩⟩
  · obtain ⟨v, hx, -⟩ := hp L stk h _ e1
    cases hx
  · obtain ⟨v, hx, -⟩ := hp L stk h _ e1
    cases hx
    exact ⟨Nat.le_refl _, Nat.le_refl _⟩
  · obtain ⟨v, hx, -⟩ := hp L stk h _ e1
    cases hx
  · obtain ⟨v, hx, hw⟩ := hp L stk h _ e1
    cases hx
    intro H locs ls a1 a2 a3 a4 a5 a6
    refine hw p e R s m args below meth c H locs _ _ ls (ev_Qc D cl cA tyL lo O v h) _ X.1 (fun t ht hW => ?_) a2
    refine ⟨rfl, ⟨by rw [ht]; exact a1, va_K.moved hW.alike X.2.1, X.2.2.2.1 s t (Or.inl hW) (by rw [ht]; exact a4) (fun q hq => by rw [ht]; exact a3 q hq) X.2.2.1, by rw [ht]; exact Nat.le_trans a5 a4⟩, by rw [ht]; exact a4, fun q hq => by rw [ht]; exact a3 q hq⟩
def ev_iret : ev_Fn := fun _ stk h => match stk with
  | [.int x] => some (.inr (some (.int x), h))
  | _ => none
theorem ok_iret (hr : ret = some .int) (hd : decode cc pc = .ok (.ireturn, 1)) : ev_Good l cl tyL G cc nL ret nm own Ts d wd pc (ev_fn ev_iret) := by
  refine ev_end fun L stk h x hx => ?_
  unfold ev_iret at hx
  split at hx
  · cases hx; exact ⟨_, rfl, fun p e R s m args below meth c H locs cells slots ls Qc free X hq hf => W.iret X.1 X.2.1 (X.2.2.2.2.2.1.trans hr) hq hf hd X.2.2.2.2.2.2.1⟩
  · cases hx
def ev_zret (ty : FieldType) : ev_Fn := fun _ stk h => match stk with
  | [.int x] => if narrow ty (.int x) = .int x then some (.inr (some (.int x), h)) else none
  | _ => none
theorem ok_zret {ty : FieldType} (hr : ret = some ty) (hd : decode cc pc = .ok (.ireturn, 1)) : ev_Good l cl tyL G cc nL ret nm own Ts d wd pc (ev_fn (ev_zret ty)) := by
  refine ev_end fun L stk h x hx => ?_
  unfold ev_zret at hx
  split at hx
  · split at hx
    · rename_i hg; cases hx; exact ⟨_, rfl, fun p e R s m args below meth c H locs cells slots ls Qc free X hq hf => W.zret X.1 X.2.1 (X.2.2.2.2.2.1.trans hr) hg hq hf hd X.2.2.2.2.2.2.1⟩
    · cases hx
  · cases hx
def ev_lret : ev_Fn := fun _ stk h => match stk with
  | [.long x] => some (.inr (some (.long x), h))
  | _ => none
theorem ok_lret (hr : ret = some .long) (hd : decode cc pc = .ok (.lreturn, 1)) : ev_Good l cl tyL G cc nL ret nm own Ts d wd pc (ev_fn ev_lret) := by
  refine ev_end fun L stk h x hx => ?_
  unfold ev_lret at hx
  split at hx
  · cases hx; exact ⟨_, rfl, fun p e R s m args below meth c H locs cells slots ls Qc free X hq hf => W.lret X.1 X.2.1 (X.2.2.2.2.2.1.trans hr) hq hf hd X.2.2.2.2.2.2.1⟩
  · cases hx
def ev_vret : ev_Fn := fun _ stk h => match stk with
  | [] => some (.inr (none, h))
  | _ => none
theorem ok_vret (hr : ret = none) (hd : decode cc pc = .ok (.return_, 1)) : ev_Good l cl tyL G cc nL ret nm own Ts d wd pc (ev_fn ev_vret) := by
  refine ev_end fun L stk h x hx => ?_
  unfold ev_vret at hx
  split at hx
  · cases hx; exact ⟨_, rfl, fun p e R s m args below meth c H locs cells slots ls Qc free X hq hf => W.vret X.1 X.2.1 (X.2.2.2.2.2.1.trans hr) hq hf hd X.2.2.2.2.2.2.1⟩
  · cases hx
def ev_aret : ev_Fn := fun _ stk h => match stk with
  | [.ref x] => some (.inr (some (.ref x), h))
  | [.null] => some (.inr (some .null, h))
  | _ => none
theorem ok_aret {rt : FieldType} (hr : ret = some rt) (hrt : (∃ n, rt = .object n) ∨ ∃ t, rt = .array t) (hd : decode cc pc = .ok (.areturn, 1)) : ev_Good l cl tyL G cc nL ret nm own Ts d wd pc (ev_fn ev_aret) := by
  refine ev_end fun L stk h x hx => ?_
  unfold ev_aret at hx
  split at hx
  · cases hx; exact ⟨_, rfl, fun p e R s m args below meth c H locs cells slots ls Qc free X hq hf => W.aret X.1 X.2.1 (X.2.2.2.2.2.1.trans hr) hrt (Or.inr ⟨_, rfl⟩) hq hf hd X.2.2.2.2.2.2.1⟩
  · cases hx; exact ⟨_, rfl, fun p e R s m args below meth c H locs cells slots ls Qc free X hq hf => W.aret X.1 X.2.1 (X.2.2.2.2.2.1.trans hr) hrt (Or.inl rfl) hq hf hd X.2.2.2.2.2.2.1⟩
  · cases hx
-- a field is read
def ev_fld (f : Nat → Option ev_E) (a ci k : Nat) : Option Value := match f a with
  | some (.inr (c, fs)) => if c = ci then fs[k]? else none
  | _ => none
def ev_getf (ci k nx : Nat) : ev_Fn := fun L stk h => match stk with
  | .ref a :: r => match ev_fld h.2.2 a ci k with
    | some v => some (.inl (nx, L, v :: r, h))
    | none => none
  | _ => none
theorem ev_fld_some {f : Nat → Option ev_E} {a ci k : Nat} {v : Value} (h : ev_fld f a ci k = some v) : ∃ fs : List Value, f a = some (.inr (ci, fs)) ∧ fs[k]? = some v := by
  unfold ev_fld at h
  split at h
  · rename_i c fs hf
    split at h
    · rename_i e
      subst e
      exact ⟨fs, hf, h⟩
    · cases h
  · cases h
theorem ok_getf {C ref : String} {T : u_T} {N ci k ix : Nat} (hc : cl[ci]? = some (C, T, N)) (hk : k < N) (hin : ∀ w ∈ u_ws C T N, w ∈ Ts) (hlink : Cond.fieldLink own ix ref (T k).2.1 (T k).2.2.1 ∈ Ts)
    (hsame : (T k).1 = ref ∨ Cond.sameField ref (T k).1 (T k).2.1 (T k).2.2.1 ∈ Ts) (hd : decode cc pc = .ok (.getfield ix, 3)) : ev_Good l cl tyL G cc nL ret nm own Ts d wd pc (ev_fn (ev_getf ci k (pc + 3))) := by
  refine ev_pure fun L stk h x hx => ?_
  unfold ev_getf at hx
  split at hx
  · rename_i a r
    split at hx
    · rename_i v hv
      cases hx
      obtain ⟨fs, hf, hv⟩ := ev_fld_some hv
      exact ⟨_, _, rfl, fun p e R s m args below meth c D cA lo O X H locs cells slots ls Q hw ho hl kk => va_get X.1.1 X.1.2.1 X.1.2.2.2.2.1 hin X.1.2.2.2.1 X.2.1 (ev_P1 (hw.2 a _ hf).2) 0 rfl hc k hk (X.1.2.2.2.2.1 _ hlink) (fun x9 h9 => by
        rcases hsame with q | q
        · rw [← q]; exact h9
        · exact u_same (X.1.2.2.2.2.1 _ q) x9 h9) hv hd kk⟩
    · cases hx
  · cases hx
end HOPS
