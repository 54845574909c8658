/-! The evaluator's steps (written by wip/whole/genops.py), each with the row that makes it sound. -/
section OPS
variable {l : Launch} {cl : List vw_C} {tyL : List FieldType} {G : Nat → (State → Prop) → Prop} {cc : ByteArray} {nL : Nat} {ret : Option FieldType} {nm own : String} {Ts : List Cond} {d wd pc : Nat}
-- steps that leave locals and heap as they are
theorem ev_pure {f : ev_Fn} (hp : ∀ (L : ev_L) (stk : List Value) (h : ev_H) (x : ev_S ⊕ ev_O), f L stk h = some x → ∃ (nx : Nat) (stk' : List Value), x = .inl (nx, L, stk', h) ∧
      ∀ (p : Program) (e : Env) (R : Room) (s : State) (m : MethodId) (args : Array Value) (below : List Frame) (meth : Method) (c : Code) (D : va_G) (cA : Nat → ClassId) (lo : Nat) (O : State → Prop), ev_ctx p l e R s m args below meth c cc nL ret nm own Ts D cl cA tyL lo O G d wd →
        ∀ (H : Heap) (locs : List Loc) (cells slots : Nat) (ls : Array Slot) (Q : State → Prop), ev_wd D cl cA lo h H → (∀ q, q < lo → H[q]? = s.heap[q]?) → ev_lv ls nL L → W p l e R s m args below meth c H locs cells slots Q (F0 m nx ls stk') → W p l e R s m args below meth c H locs cells slots Q (F0 m pc ls stk)) :
    ev_Good l cl tyL G cc nL ret nm own Ts d wd pc (ev_fn f) := by
  refine ⟨fun L stk h => ⟨fun st' e1 => ?_, fun o e1 => ?_⟩, fun p e R s m args below meth c D cA lo O b0 oE X => ⟨fun L stk h g1 g2 Q st' e1 r1 r2 k => ?_, fun L stk h g1 g2 e1 => ?_⟩⟩
  · obtain ⟨nx, stk', hx, -⟩ := hp L stk h _ e1
    cases hx
    exact ⟨Nat.le_refl _, Nat.le_refl _⟩
  · obtain ⟨nx, stk', hx, -⟩ := hp L stk h _ e1
    cases hx
  · obtain ⟨nx, stk', hx, hw⟩ := hp L stk h _ e1
    cases hx
    intro H locs ls a1 a2 a3 a4 a5 a6
    exact hw p e R s m args below meth c D cA lo O X H locs _ _ ls _ a1 a3 a6 (k H locs ls a1 a2 a3 a4 a5 a6)
  · obtain ⟨nx, stk', hx, -⟩ := hp L stk h _ e1
    cases hx

def ev_iadd (nx : Nat) : ev_Fn := fun L stk h => match stk with
  | .int y :: .int x :: r => some (.inl (nx, L, .int (x + y) :: r, h))
  | _ => none
theorem ok_iadd (hd : decode cc pc = .ok (.iadd, 1)) : ev_Good l cl tyL G cc nL ret nm own Ts d wd pc (ev_fn (ev_iadd (pc + 1))) := by
  refine ev_pure fun L stk h x hx => ?_
  unfold ev_iadd at hx
  split at hx
  · cases hx; exact ⟨_, _, rfl, fun p e R s m args below meth c D cA lo O X H locs cells slots ls Q hw ho hl k => lv_iadd X.1.1 X.1.2.1 hd k⟩
  · cases hx
def ev_isub (nx : Nat) : ev_Fn := fun L stk h => match stk with
  | .int y :: .int x :: r => some (.inl (nx, L, .int (x - y) :: r, h))
  | _ => none
theorem ok_isub (hd : decode cc pc = .ok (.isub, 1)) : ev_Good l cl tyL G cc nL ret nm own Ts d wd pc (ev_fn (ev_isub (pc + 1))) := by
  refine ev_pure fun L stk h x hx => ?_
  unfold ev_isub at hx
  split at hx
  · cases hx; exact ⟨_, _, rfl, fun p e R s m args below meth c D cA lo O X H locs cells slots ls Q hw ho hl k => lv_isub X.1.1 X.1.2.1 hd k⟩
  · cases hx
def ev_imul (nx : Nat) : ev_Fn := fun L stk h => match stk with
  | .int y :: .int x :: r => some (.inl (nx, L, .int (x * y) :: r, h))
  | _ => none
theorem ok_imul (hd : decode cc pc = .ok (.imul, 1)) : ev_Good l cl tyL G cc nL ret nm own Ts d wd pc (ev_fn (ev_imul (pc + 1))) := by
  refine ev_pure fun L stk h x hx => ?_
  unfold ev_imul at hx
  split at hx
  · cases hx; exact ⟨_, _, rfl, fun p e R s m args below meth c D cA lo O X H locs cells slots ls Q hw ho hl k => lv_imul X.1.1 X.1.2.1 hd k⟩
  · cases hx
def ev_iand (nx : Nat) : ev_Fn := fun L stk h => match stk with
  | .int y :: .int x :: r => some (.inl (nx, L, .int (x &&& y) :: r, h))
  | _ => none
theorem ok_iand (hd : decode cc pc = .ok (.iand, 1)) : ev_Good l cl tyL G cc nL ret nm own Ts d wd pc (ev_fn (ev_iand (pc + 1))) := by
  refine ev_pure fun L stk h x hx => ?_
  unfold ev_iand at hx
  split at hx
  · cases hx; exact ⟨_, _, rfl, fun p e R s m args below meth c D cA lo O X H locs cells slots ls Q hw ho hl k => lv_iand X.1.1 X.1.2.1 hd k⟩
  · cases hx
def ev_ior (nx : Nat) : ev_Fn := fun L stk h => match stk with
  | .int y :: .int x :: r => some (.inl (nx, L, .int (x ||| y) :: r, h))
  | _ => none
theorem ok_ior (hd : decode cc pc = .ok (.ior, 1)) : ev_Good l cl tyL G cc nL ret nm own Ts d wd pc (ev_fn (ev_ior (pc + 1))) := by
  refine ev_pure fun L stk h x hx => ?_
  unfold ev_ior at hx
  split at hx
  · cases hx; exact ⟨_, _, rfl, fun p e R s m args below meth c D cA lo O X H locs cells slots ls Q hw ho hl k => lv_ior X.1.1 X.1.2.1 hd k⟩
  · cases hx
def ev_ixor (nx : Nat) : ev_Fn := fun L stk h => match stk with
  | .int y :: .int x :: r => some (.inl (nx, L, .int (x ^^^ y) :: r, h))
  | _ => none
theorem ok_ixor (hd : decode cc pc = .ok (.ixor, 1)) : ev_Good l cl tyL G cc nL ret nm own Ts d wd pc (ev_fn (ev_ixor (pc + 1))) := by
  refine ev_pure fun L stk h x hx => ?_
  unfold ev_ixor at hx
  split at hx
  · cases hx; exact ⟨_, _, rfl, fun p e R s m args below meth c D cA lo O X H locs cells slots ls Q hw ho hl k => lv_ixor X.1.1 X.1.2.1 hd k⟩
  · cases hx
def ev_ishl (nx : Nat) : ev_Fn := fun L stk h => match stk with
  | .int y :: .int x :: r => some (.inl (nx, L, .int (x <<< (y &&& 31)) :: r, h))
  | _ => none
theorem ok_ishl (hd : decode cc pc = .ok (.ishl, 1)) : ev_Good l cl tyL G cc nL ret nm own Ts d wd pc (ev_fn (ev_ishl (pc + 1))) := by
  refine ev_pure fun L stk h x hx => ?_
  unfold ev_ishl at hx
  split at hx
  · cases hx; exact ⟨_, _, rfl, fun p e R s m args below meth c D cA lo O X H locs cells slots ls Q hw ho hl k => lv_ishl X.1.1 X.1.2.1 hd k⟩
  · cases hx
def ev_ishr (nx : Nat) : ev_Fn := fun L stk h => match stk with
  | .int y :: .int x :: r => some (.inl (nx, L, .int (x >>> (y &&& 31)) :: r, h))
  | _ => none
theorem ok_ishr (hd : decode cc pc = .ok (.ishr, 1)) : ev_Good l cl tyL G cc nL ret nm own Ts d wd pc (ev_fn (ev_ishr (pc + 1))) := by
  refine ev_pure fun L stk h x hx => ?_
  unfold ev_ishr at hx
  split at hx
  · cases hx; exact ⟨_, _, rfl, fun p e R s m args below meth c D cA lo O X H locs cells slots ls Q hw ho hl k => lv_ishr X.1.1 X.1.2.1 hd k⟩
  · cases hx
def ev_iushr (nx : Nat) : ev_Fn := fun L stk h => match stk with
  | .int y :: .int x :: r => some (.inl (nx, L, .int ((x.toUInt32 >>> (y.toUInt32 &&& Int32.toUInt32 31)).toInt32) :: r, h))
  | _ => none
theorem ok_iushr (hd : decode cc pc = .ok (.iushr, 1)) : ev_Good l cl tyL G cc nL ret nm own Ts d wd pc (ev_fn (ev_iushr (pc + 1))) := by
  refine ev_pure fun L stk h x hx => ?_
  unfold ev_iushr at hx
  split at hx
  · cases hx; exact ⟨_, _, rfl, fun p e R s m args below meth c D cA lo O X H locs cells slots ls Q hw ho hl k => lv_iushr X.1.1 X.1.2.1 hd rfl k⟩
  · cases hx
def ev_idiv (nx : Nat) : ev_Fn := fun L stk h => match stk with
  | .int y :: .int x :: r => if ¬ y = 0 then some (.inl (nx, L, .int (x / y) :: r, h)) else none
  | _ => none
theorem ok_idiv (hd : decode cc pc = .ok (.idiv, 1)) : ev_Good l cl tyL G cc nL ret nm own Ts d wd pc (ev_fn (ev_idiv (pc + 1))) := by
  refine ev_pure fun L stk h x hx => ?_
  unfold ev_idiv at hx
  split at hx
  · split at hx
    · rename_i hg; cases hx; exact ⟨_, _, rfl, fun p e R s m args below meth c D cA lo O X H locs cells slots ls Q hw ho hl k => lv_idiv X.1.1 X.1.2.1 hd hg k⟩
    · cases hx
  · cases hx
def ev_irem (nx : Nat) : ev_Fn := fun L stk h => match stk with
  | .int y :: .int x :: r => if ¬ y = 0 then some (.inl (nx, L, .int (x - x / y * y) :: r, h)) else none
  | _ => none
theorem ok_irem (hd : decode cc pc = .ok (.irem, 1)) : ev_Good l cl tyL G cc nL ret nm own Ts d wd pc (ev_fn (ev_irem (pc + 1))) := by
  refine ev_pure fun L stk h x hx => ?_
  unfold ev_irem at hx
  split at hx
  · split at hx
    · rename_i hg; cases hx; exact ⟨_, _, rfl, fun p e R s m args below meth c D cA lo O X H locs cells slots ls Q hw ho hl k => lv_irem X.1.1 X.1.2.1 hd hg k⟩
    · cases hx
  · cases hx
def ev_ineg (nx : Nat) : ev_Fn := fun L stk h => match stk with
  | .int x :: r => some (.inl (nx, L, .int (-x) :: r, h))
  | _ => none
theorem ok_ineg (hd : decode cc pc = .ok (.ineg, 1)) : ev_Good l cl tyL G cc nL ret nm own Ts d wd pc (ev_fn (ev_ineg (pc + 1))) := by
  refine ev_pure fun L stk h x hx => ?_
  unfold ev_ineg at hx
  split at hx
  · cases hx; exact ⟨_, _, rfl, fun p e R s m args below meth c D cA lo O X H locs cells slots ls Q hw ho hl k => lv_ineg X.1.1 X.1.2.1 hd k⟩
  · cases hx
def ev_ladd (nx : Nat) : ev_Fn := fun L stk h => match stk with
  | .long y :: .long x :: r => some (.inl (nx, L, .long (x + y) :: r, h))
  | _ => none
theorem ok_ladd (hd : decode cc pc = .ok (.ladd, 1)) : ev_Good l cl tyL G cc nL ret nm own Ts d wd pc (ev_fn (ev_ladd (pc + 1))) := by
  refine ev_pure fun L stk h x hx => ?_
  unfold ev_ladd at hx
  split at hx
  · cases hx; exact ⟨_, _, rfl, fun p e R s m args below meth c D cA lo O X H locs cells slots ls Q hw ho hl k => lv_ladd X.1.1 X.1.2.1 hd k⟩
  · cases hx
def ev_lsub (nx : Nat) : ev_Fn := fun L stk h => match stk with
  | .long y :: .long x :: r => some (.inl (nx, L, .long (x - y) :: r, h))
  | _ => none
theorem ok_lsub (hd : decode cc pc = .ok (.lsub, 1)) : ev_Good l cl tyL G cc nL ret nm own Ts d wd pc (ev_fn (ev_lsub (pc + 1))) := by
  refine ev_pure fun L stk h x hx => ?_
  unfold ev_lsub at hx
  split at hx
  · cases hx; exact ⟨_, _, rfl, fun p e R s m args below meth c D cA lo O X H locs cells slots ls Q hw ho hl k => lv_lsub X.1.1 X.1.2.1 hd k⟩
  · cases hx
def ev_lmul (nx : Nat) : ev_Fn := fun L stk h => match stk with
  | .long y :: .long x :: r => some (.inl (nx, L, .long (x * y) :: r, h))
  | _ => none
theorem ok_lmul (hd : decode cc pc = .ok (.lmul, 1)) : ev_Good l cl tyL G cc nL ret nm own Ts d wd pc (ev_fn (ev_lmul (pc + 1))) := by
  refine ev_pure fun L stk h x hx => ?_
  unfold ev_lmul at hx
  split at hx
  · cases hx; exact ⟨_, _, rfl, fun p e R s m args below meth c D cA lo O X H locs cells slots ls Q hw ho hl k => lv_lmul X.1.1 X.1.2.1 hd k⟩
  · cases hx
def ev_land (nx : Nat) : ev_Fn := fun L stk h => match stk with
  | .long y :: .long x :: r => some (.inl (nx, L, .long (x &&& y) :: r, h))
  | _ => none
theorem ok_land (hd : decode cc pc = .ok (.land, 1)) : ev_Good l cl tyL G cc nL ret nm own Ts d wd pc (ev_fn (ev_land (pc + 1))) := by
  refine ev_pure fun L stk h x hx => ?_
  unfold ev_land at hx
  split at hx
  · cases hx; exact ⟨_, _, rfl, fun p e R s m args below meth c D cA lo O X H locs cells slots ls Q hw ho hl k => lv_land X.1.1 X.1.2.1 hd k⟩
  · cases hx
def ev_lor (nx : Nat) : ev_Fn := fun L stk h => match stk with
  | .long y :: .long x :: r => some (.inl (nx, L, .long (x ||| y) :: r, h))
  | _ => none
theorem ok_lor (hd : decode cc pc = .ok (.lor, 1)) : ev_Good l cl tyL G cc nL ret nm own Ts d wd pc (ev_fn (ev_lor (pc + 1))) := by
  refine ev_pure fun L stk h x hx => ?_
  unfold ev_lor at hx
  split at hx
  · cases hx; exact ⟨_, _, rfl, fun p e R s m args below meth c D cA lo O X H locs cells slots ls Q hw ho hl k => lv_lor X.1.1 X.1.2.1 hd k⟩
  · cases hx
def ev_lxor (nx : Nat) : ev_Fn := fun L stk h => match stk with
  | .long y :: .long x :: r => some (.inl (nx, L, .long (x ^^^ y) :: r, h))
  | _ => none
theorem ok_lxor (hd : decode cc pc = .ok (.lxor, 1)) : ev_Good l cl tyL G cc nL ret nm own Ts d wd pc (ev_fn (ev_lxor (pc + 1))) := by
  refine ev_pure fun L stk h x hx => ?_
  unfold ev_lxor at hx
  split at hx
  · cases hx; exact ⟨_, _, rfl, fun p e R s m args below meth c D cA lo O X H locs cells slots ls Q hw ho hl k => lv_lxor X.1.1 X.1.2.1 hd k⟩
  · cases hx
def ev_lshl (nx : Nat) : ev_Fn := fun L stk h => match stk with
  | .int y :: .long x :: r => some (.inl (nx, L, .long (x <<< (y.toInt64 &&& 63)) :: r, h))
  | _ => none
theorem ok_lshl (hd : decode cc pc = .ok (.lshl, 1)) : ev_Good l cl tyL G cc nL ret nm own Ts d wd pc (ev_fn (ev_lshl (pc + 1))) := by
  refine ev_pure fun L stk h x hx => ?_
  unfold ev_lshl at hx
  split at hx
  · cases hx; exact ⟨_, _, rfl, fun p e R s m args below meth c D cA lo O X H locs cells slots ls Q hw ho hl k => lv_lshl X.1.1 X.1.2.1 hd rfl k⟩
  · cases hx
def ev_lshr (nx : Nat) : ev_Fn := fun L stk h => match stk with
  | .int y :: .long x :: r => some (.inl (nx, L, .long (x >>> (y.toInt64 &&& 63)) :: r, h))
  | _ => none
theorem ok_lshr (hd : decode cc pc = .ok (.lshr, 1)) : ev_Good l cl tyL G cc nL ret nm own Ts d wd pc (ev_fn (ev_lshr (pc + 1))) := by
  refine ev_pure fun L stk h x hx => ?_
  unfold ev_lshr at hx
  split at hx
  · cases hx; exact ⟨_, _, rfl, fun p e R s m args below meth c D cA lo O X H locs cells slots ls Q hw ho hl k => lv_lshr X.1.1 X.1.2.1 hd rfl k⟩
  · cases hx
def ev_lushr (nx : Nat) : ev_Fn := fun L stk h => match stk with
  | .int y :: .long x :: r => some (.inl (nx, L, .long ((x.toUInt64 >>> (y.toInt64.toUInt64 &&& Int64.toUInt64 63)).toInt64) :: r, h))
  | _ => none
theorem ok_lushr (hd : decode cc pc = .ok (.lushr, 1)) : ev_Good l cl tyL G cc nL ret nm own Ts d wd pc (ev_fn (ev_lushr (pc + 1))) := by
  refine ev_pure fun L stk h x hx => ?_
  unfold ev_lushr at hx
  split at hx
  · cases hx; exact ⟨_, _, rfl, fun p e R s m args below meth c D cA lo O X H locs cells slots ls Q hw ho hl k => lv_lushr X.1.1 X.1.2.1 hd rfl k⟩
  · cases hx
def ev_lcmp (nx : Nat) : ev_Fn := fun L stk h => match stk with
  | .long y :: .long x :: r => some (.inl (nx, L, .int (lg_cmp x y) :: r, h))
  | _ => none
theorem ok_lcmp (hd : decode cc pc = .ok (.lcmp, 1)) : ev_Good l cl tyL G cc nL ret nm own Ts d wd pc (ev_fn (ev_lcmp (pc + 1))) := by
  refine ev_pure fun L stk h x hx => ?_
  unfold ev_lcmp at hx
  split at hx
  · cases hx; exact ⟨_, _, rfl, fun p e R s m args below meth c D cA lo O X H locs cells slots ls Q hw ho hl k => W.lcmp X.1.1 X.1.2.1 hd k⟩
  · cases hx
def ev_i2l (nx : Nat) : ev_Fn := fun L stk h => match stk with
  | .int x :: r => some (.inl (nx, L, .long x.toInt64 :: r, h))
  | _ => none
theorem ok_i2l (hd : decode cc pc = .ok (.i2l, 1)) : ev_Good l cl tyL G cc nL ret nm own Ts d wd pc (ev_fn (ev_i2l (pc + 1))) := by
  refine ev_pure fun L stk h x hx => ?_
  unfold ev_i2l at hx
  split at hx
  · cases hx; exact ⟨_, _, rfl, fun p e R s m args below meth c D cA lo O X H locs cells slots ls Q hw ho hl k => lv_i2l X.1.1 X.1.2.1 hd rfl k⟩
  · cases hx
def ev_l2i (nx : Nat) : ev_Fn := fun L stk h => match stk with
  | .long x :: r => some (.inl (nx, L, .int x.toInt32 :: r, h))
  | _ => none
theorem ok_l2i (hd : decode cc pc = .ok (.l2i, 1)) : ev_Good l cl tyL G cc nL ret nm own Ts d wd pc (ev_fn (ev_l2i (pc + 1))) := by
  refine ev_pure fun L stk h x hx => ?_
  unfold ev_l2i at hx
  split at hx
  · cases hx; exact ⟨_, _, rfl, fun p e R s m args below meth c D cA lo O X H locs cells slots ls Q hw ho hl k => lv_l2i X.1.1 X.1.2.1 hd rfl k⟩
  · cases hx
def ev_i2b (nx : Nat) : ev_Fn := fun L stk h => match stk with
  | .int x :: r => some (.inl (nx, L, .int x.toInt8.toInt32 :: r, h))
  | _ => none
theorem ok_i2b (hd : decode cc pc = .ok (.i2b, 1)) : ev_Good l cl tyL G cc nL ret nm own Ts d wd pc (ev_fn (ev_i2b (pc + 1))) := by
  refine ev_pure fun L stk h x hx => ?_
  unfold ev_i2b at hx
  split at hx
  · cases hx; exact ⟨_, _, rfl, fun p e R s m args below meth c D cA lo O X H locs cells slots ls Q hw ho hl k => lv_i2b X.1.1 X.1.2.1 hd rfl k⟩
  · cases hx
def ev_i2c (nx : Nat) : ev_Fn := fun L stk h => match stk with
  | .int x :: r => some (.inl (nx, L, .int (x.toUInt32 % 65536).toInt32 :: r, h))
  | _ => none
theorem ok_i2c (hd : decode cc pc = .ok (.i2c, 1)) : ev_Good l cl tyL G cc nL ret nm own Ts d wd pc (ev_fn (ev_i2c (pc + 1))) := by
  refine ev_pure fun L stk h x hx => ?_
  unfold ev_i2c at hx
  split at hx
  · cases hx; exact ⟨_, _, rfl, fun p e R s m args below meth c D cA lo O X H locs cells slots ls Q hw ho hl k => lv_i2c X.1.1 X.1.2.1 hd rfl k⟩
  · cases hx
def ev_ci (v : Int32) (nx : Nat) : ev_Fn := fun L stk h => some (.inl (nx, L, .int v :: stk, h))
theorem ok_iconst {z : Int} {v : Int32} (hd : decode cc pc = .ok (.iconst z, 1)) (hv : Int32.ofInt z = v) : ev_Good l cl tyL G cc nL ret nm own Ts d wd pc (ev_fn (ev_ci v (pc + 1))) := by
  refine ev_pure fun L stk h x hx => ?_
  unfold ev_ci at hx
  cases hx; exact ⟨_, _, rfl, fun p e R s m args below meth c D cA lo O X H locs cells slots ls Q hw ho hl k => lv_iconst X.1.1 X.1.2.1 hd hv k⟩
theorem ok_bipush {z : Int} {v : Int32} (hd : decode cc pc = .ok (.bipush z, 2)) (hv : (Int8.ofInt z).toInt32 = v) : ev_Good l cl tyL G cc nL ret nm own Ts d wd pc (ev_fn (ev_ci v (pc + 2))) := by
  refine ev_pure fun L stk h x hx => ?_
  unfold ev_ci at hx
  cases hx; exact ⟨_, _, rfl, fun p e R s m args below meth c D cA lo O X H locs cells slots ls Q hw ho hl k => lv_bipush X.1.1 X.1.2.1 hd hv k⟩
theorem ok_sipush {z : Int} {v : Int32} (hd : decode cc pc = .ok (.sipush z, 3)) (hv : (Int16.ofInt z).toInt32 = v) : ev_Good l cl tyL G cc nL ret nm own Ts d wd pc (ev_fn (ev_ci v (pc + 3))) := by
  refine ev_pure fun L stk h x hx => ?_
  unfold ev_ci at hx
  cases hx; exact ⟨_, _, rfl, fun p e R s m args below meth c D cA lo O X H locs cells slots ls Q hw ho hl k => lv_sipush X.1.1 X.1.2.1 hd hv k⟩
theorem ok_ldc {ix : Nat} {v : Int32} (hw : Cond.constant own ix v ∈ Ts) (hd : decode cc pc = .ok (.ldc ix, 2)) : ev_Good l cl tyL G cc nL ret nm own Ts d wd pc (ev_fn (ev_ci v (pc + 2))) := by
  refine ev_pure fun L stk h x hx => ?_
  unfold ev_ci at hx
  cases hx; exact ⟨_, _, rfl, fun p e R s m args below meth c D cA lo O X H locs cells slots ls Q hw' ho hl k => lv_ldc X.1.1 X.1.2.1 X.1.2.2.2.1 (X.1.2.2.2.2.1 _ hw) hd k⟩
def ev_cl (v : Int64) (nx : Nat) : ev_Fn := fun L stk h => some (.inl (nx, L, .long v :: stk, h))
theorem ok_lconst {z : Fin 2} {v : Int64} (hd : decode cc pc = .ok (.lconst z, 1)) (hv : Int64.ofNat (z : Nat) = v) : ev_Good l cl tyL G cc nL ret nm own Ts d wd pc (ev_fn (ev_cl v (pc + 1))) := by
  refine ev_pure fun L stk h x hx => ?_
  unfold ev_cl at hx
  cases hx; exact ⟨_, _, rfl, fun p e R s m args below meth c D cA lo O X H locs cells slots ls Q hw ho hl k => lv_lconst X.1.1 X.1.2.1 hd hv k⟩
theorem ok_ldc2 {ix : Nat} {v : Int64} (hw : Cond.constantLong own ix v ∈ Ts) (hd : decode cc pc = .ok (.ldc2_w ix, 3)) : ev_Good l cl tyL G cc nL ret nm own Ts d wd pc (ev_fn (ev_cl v (pc + 3))) := by
  refine ev_pure fun L stk h x hx => ?_
  unfold ev_cl at hx
  cases hx; exact ⟨_, _, rfl, fun p e R s m args below meth c D cA lo O X H locs cells slots ls Q hw' ho hl k => lv_ldc2 X.1.1 X.1.2.1 X.1.2.2.2.1 (X.1.2.2.2.2.1 _ hw) hd k⟩
def ev_null  (nx : Nat) : ev_Fn := fun L stk h => some (.inl (nx, L, .null :: stk, h))
theorem ok_null (hd : decode cc pc = .ok (.aconst_null, 1)) : ev_Good l cl tyL G cc nL ret nm own Ts d wd pc (ev_fn (ev_null (pc + 1))) := by
  refine ev_pure fun L stk h x hx => ?_
  unfold ev_null at hx
  cases hx; exact ⟨_, _, rfl, fun p e R s m args below meth c D cA lo O X H locs cells slots ls Q hw ho hl k => lv_null X.1.1 X.1.2.1 hd k⟩
def ev_goto (nx : Nat) : ev_Fn := fun L stk h => some (.inl (nx, L, stk, h))
theorem ok_goto {off : Int} {tgt : Nat} (hd : decode cc pc = .ok (.goto off, 3)) (ht : (pc : Int) + off = (tgt : Int)) : ev_Good l cl tyL G cc nL ret nm own Ts d wd pc (ev_fn (ev_goto tgt)) := by
  refine ev_pure fun L stk h x hx => ?_
  unfold ev_goto at hx
  cases hx; exact ⟨_, _, rfl, fun p e R s m args below meth c D cA lo O X H locs cells slots ls Q hw ho hl k => lv_goto X.1.1 X.1.2.1 hd ht k⟩
def ev_dup (nx : Nat) : ev_Fn := fun L stk h => match stk with
  | a :: r => if a.category = 1 then some (.inl (nx, L, a :: a :: r, h)) else none
  | _ => none
theorem ok_dup (hd : decode cc pc = .ok (.dup, 1)) : ev_Good l cl tyL G cc nL ret nm own Ts d wd pc (ev_fn (ev_dup (pc + 1))) := by
  refine ev_pure fun L stk h x hx => ?_
  unfold ev_dup at hx
  split at hx
  · split at hx
    · rename_i hg; cases hx; exact ⟨_, _, rfl, fun p e R s m args below meth c D cA lo O X H locs cells slots ls Q hw ho hl k => lv_dup X.1.1 X.1.2.1 hd hg k⟩
    · cases hx
  · cases hx
def ev_pop (nx : Nat) : ev_Fn := fun L stk h => match stk with
  | a :: r => if a.category = 1 then some (.inl (nx, L, r, h)) else none
  | _ => none
theorem ok_pop (hd : decode cc pc = .ok (.pop, 1)) : ev_Good l cl tyL G cc nL ret nm own Ts d wd pc (ev_fn (ev_pop (pc + 1))) := by
  refine ev_pure fun L stk h x hx => ?_
  unfold ev_pop at hx
  split at hx
  · split at hx
    · rename_i hg; cases hx; exact ⟨_, _, rfl, fun p e R s m args below meth c D cA lo O X H locs cells slots ls Q hw ho hl k => lv_pop X.1.1 X.1.2.1 hd hg k⟩
    · cases hx
  · cases hx
def ev_dup_x1 (nx : Nat) : ev_Fn := fun L stk h => match stk with
  | a :: b :: r => if a.category = 1 ∧ b.category = 1 then some (.inl (nx, L, a :: b :: a :: r, h)) else none
  | _ => none
theorem ok_dup_x1 (hd : decode cc pc = .ok (.dup_x1, 1)) : ev_Good l cl tyL G cc nL ret nm own Ts d wd pc (ev_fn (ev_dup_x1 (pc + 1))) := by
  refine ev_pure fun L stk h x hx => ?_
  unfold ev_dup_x1 at hx
  split at hx
  · split at hx
    · rename_i hg; cases hx; exact ⟨_, _, rfl, fun p e R s m args below meth c D cA lo O X H locs cells slots ls Q hw ho hl k => lv_dup_x1 X.1.1 X.1.2.1 hd hg.1 hg.2 k⟩
    · cases hx
  · cases hx
def ev_dup_x2 (nx : Nat) : ev_Fn := fun L stk h => match stk with
  | a :: b :: f :: r => if a.category = 1 ∧ b.category = 1 ∧ f.category = 1 then some (.inl (nx, L, a :: b :: f :: a :: r, h)) else none
  | _ => none
theorem ok_dup_x2 (hd : decode cc pc = .ok (.dup_x2, 1)) : ev_Good l cl tyL G cc nL ret nm own Ts d wd pc (ev_fn (ev_dup_x2 (pc + 1))) := by
  refine ev_pure fun L stk h x hx => ?_
  unfold ev_dup_x2 at hx
  split at hx
  · split at hx
    · rename_i hg; cases hx; exact ⟨_, _, rfl, fun p e R s m args below meth c D cA lo O X H locs cells slots ls Q hw ho hl k => lv_dup_x2 X.1.1 X.1.2.1 hd hg.1 hg.2.1 hg.2.2 k⟩
    · cases hx
  · cases hx
def ev_dup2 (nx : Nat) : ev_Fn := fun L stk h => match stk with
  | a :: b :: r => if a.category = 1 ∧ b.category = 1 then some (.inl (nx, L, a :: b :: a :: b :: r, h)) else none
  | _ => none
theorem ok_dup2 (hd : decode cc pc = .ok (.dup2, 1)) : ev_Good l cl tyL G cc nL ret nm own Ts d wd pc (ev_fn (ev_dup2 (pc + 1))) := by
  refine ev_pure fun L stk h x hx => ?_
  unfold ev_dup2 at hx
  split at hx
  · split at hx
    · rename_i hg; cases hx; exact ⟨_, _, rfl, fun p e R s m args below meth c D cA lo O X H locs cells slots ls Q hw ho hl k => lv_dup2_11 X.1.1 X.1.2.1 hd hg.1 hg.2 k⟩
    · cases hx
  · cases hx
def ev_dup2L (nx : Nat) : ev_Fn := fun L stk h => match stk with
  | .long a :: r => some (.inl (nx, L, .long a :: .long a :: r, h))
  | _ => none
theorem ok_dup2L (hd : decode cc pc = .ok (.dup2, 1)) : ev_Good l cl tyL G cc nL ret nm own Ts d wd pc (ev_fn (ev_dup2L (pc + 1))) := by
  refine ev_pure fun L stk h x hx => ?_
  unfold ev_dup2L at hx
  split at hx
  · cases hx; exact ⟨_, _, rfl, fun p e R s m args below meth c D cA lo O X H locs cells slots ls Q hw ho hl k => lv_dup2_2 X.1.1 X.1.2.1 hd rfl k⟩
  · cases hx
def ev_pop2L (nx : Nat) : ev_Fn := fun L stk h => match stk with
  | .long a :: r => some (.inl (nx, L, r, h))
  | _ => none
theorem ok_pop2L (hd : decode cc pc = .ok (.pop2, 1)) : ev_Good l cl tyL G cc nL ret nm own Ts d wd pc (ev_fn (ev_pop2L (pc + 1))) := by
  refine ev_pure fun L stk h x hx => ?_
  unfold ev_pop2L at hx
  split at hx
  · cases hx; exact ⟨_, _, rfl, fun p e R s m args below meth c D cA lo O X H locs cells slots ls Q hw ho hl k => lv_pop2_2 X.1.1 X.1.2.1 hd rfl k⟩
  · cases hx
def ev_iload (i nx : Nat) : ev_Fn := fun L stk h => match ev_at L i with
  | some (.int x) => some (.inl (nx, L, .int x :: stk, h))
  | _ => none
theorem ok_iload_n {z : Fin 4} {i : Nat} (hd : decode cc pc = .ok (.iload_n z, 1)) (hi : (z : Nat) = i) : ev_Good l cl tyL G cc nL ret nm own Ts d wd pc (ev_fn (ev_iload i (pc + 1))) := by
  refine ev_pure fun L stk h x hx => ?_
  unfold ev_iload at hx
  split at hx
  · rename_i hv; cases hx; exact ⟨_, _, rfl, fun p e R s m args below meth c D cA lo O X H locs cells slots ls Q hw ho hl k => lv_iload_n X.1.1 X.1.2.1 hd hi (hl.2.2 _ _ hv) k⟩
  · cases hx
theorem ok_iload {i : Nat} (hd : decode cc pc = .ok (.iload i, 2)) : ev_Good l cl tyL G cc nL ret nm own Ts d wd pc (ev_fn (ev_iload i (pc + 2))) := by
  refine ev_pure fun L stk h x hx => ?_
  unfold ev_iload at hx
  split at hx
  · rename_i hv; cases hx; exact ⟨_, _, rfl, fun p e R s m args below meth c D cA lo O X H locs cells slots ls Q hw ho hl k => lv_iload X.1.1 X.1.2.1 hd (hl.2.2 _ _ hv) k⟩
  · cases hx
def ev_lload (i nx : Nat) : ev_Fn := fun L stk h => match ev_at L i with
  | some (.long x) => some (.inl (nx, L, .long x :: stk, h))
  | _ => none
theorem ok_lload_n {z : Fin 4} {i : Nat} (hd : decode cc pc = .ok (.lload_n z, 1)) (hi : (z : Nat) = i) : ev_Good l cl tyL G cc nL ret nm own Ts d wd pc (ev_fn (ev_lload i (pc + 1))) := by
  refine ev_pure fun L stk h x hx => ?_
  unfold ev_lload at hx
  split at hx
  · rename_i hv; cases hx; exact ⟨_, _, rfl, fun p e R s m args below meth c D cA lo O X H locs cells slots ls Q hw ho hl k => lv_lload_n X.1.1 X.1.2.1 hd hi (hl.2.2 _ _ hv) k⟩
  · cases hx
theorem ok_lload {i : Nat} (hd : decode cc pc = .ok (.lload i, 2)) : ev_Good l cl tyL G cc nL ret nm own Ts d wd pc (ev_fn (ev_lload i (pc + 2))) := by
  refine ev_pure fun L stk h x hx => ?_
  unfold ev_lload at hx
  split at hx
  · rename_i hv; cases hx; exact ⟨_, _, rfl, fun p e R s m args below meth c D cA lo O X H locs cells slots ls Q hw ho hl k => lv_lload X.1.1 X.1.2.1 hd (hl.2.2 _ _ hv) k⟩
  · cases hx
def ev_aload (i nx : Nat) : ev_Fn := fun L stk h => match ev_at L i with
  | some (.ref x) => some (.inl (nx, L, .ref x :: stk, h))
  | some (.null) => some (.inl (nx, L, .null :: stk, h))
  | _ => none
theorem ok_aload_n {z : Fin 4} {i : Nat} (hd : decode cc pc = .ok (.aload_n z, 1)) (hi : (z : Nat) = i) : ev_Good l cl tyL G cc nL ret nm own Ts d wd pc (ev_fn (ev_aload i (pc + 1))) := by
  refine ev_pure fun L stk h x hx => ?_
  unfold ev_aload at hx
  split at hx
  · rename_i hv; cases hx; exact ⟨_, _, rfl, fun p e R s m args below meth c D cA lo O X H locs cells slots ls Q hw ho hl k => lv_aload_n X.1.1 X.1.2.1 hd hi (hl.2.2 _ _ hv) k⟩
  · rename_i hv; cases hx; exact ⟨_, _, rfl, fun p e R s m args below meth c D cA lo O X H locs cells slots ls Q hw ho hl k => lv_aload_nN X.1.1 X.1.2.1 hd hi (hl.2.2 _ _ hv) k⟩
  · cases hx
theorem ok_aload {i : Nat} (hd : decode cc pc = .ok (.aload i, 2)) : ev_Good l cl tyL G cc nL ret nm own Ts d wd pc (ev_fn (ev_aload i (pc + 2))) := by
  refine ev_pure fun L stk h x hx => ?_
  unfold ev_aload at hx
  split at hx
  · rename_i hv; cases hx; exact ⟨_, _, rfl, fun p e R s m args below meth c D cA lo O X H locs cells slots ls Q hw ho hl k => lv_aload X.1.1 X.1.2.1 hd (hl.2.2 _ _ hv) k⟩
  · rename_i hv; cases hx; exact ⟨_, _, rfl, fun p e R s m args below meth c D cA lo O X H locs cells slots ls Q hw ho hl k => lv_aloadN X.1.1 X.1.2.1 hd (hl.2.2 _ _ hv) k⟩
  · cases hx
def ev_ifeq (tg nx : Nat) : ev_Fn := fun L stk h => match stk with
  | .int x :: r => if x = 0 then some (.inl (tg, L, r, h)) else some (.inl (nx, L, r, h))
  | _ => none
theorem ok_ifeq {off : Int} {tgt : Nat} (hd : decode cc pc = .ok (.ifCond .eq off, 3)) (ht : (pc : Int) + off = (tgt : Int)) : ev_Good l cl tyL G cc nL ret nm own Ts d wd pc (ev_fn (ev_ifeq tgt (pc + 3))) := by
  refine ev_pure fun L stk h x hx => ?_
  unfold ev_ifeq at hx
  split at hx
  · split at hx
    · rename_i hg; cases hx; exact ⟨_, _, rfl, fun p e R s m args below meth c D cA lo O X H locs cells slots ls Q hw ho hl k => lv_if_eq X.1.1 X.1.2.1 hd ht (fun _ => k) (fun q => absurd hg q)⟩
    · rename_i hg; cases hx; exact ⟨_, _, rfl, fun p e R s m args below meth c D cA lo O X H locs cells slots ls Q hw ho hl k => lv_if_eq X.1.1 X.1.2.1 hd ht (fun q => absurd q hg) (fun _ => k)⟩
  · cases hx
def ev_ifne (tg nx : Nat) : ev_Fn := fun L stk h => match stk with
  | .int x :: r => if ¬ x = 0 then some (.inl (tg, L, r, h)) else some (.inl (nx, L, r, h))
  | _ => none
theorem ok_ifne {off : Int} {tgt : Nat} (hd : decode cc pc = .ok (.ifCond .ne off, 3)) (ht : (pc : Int) + off = (tgt : Int)) : ev_Good l cl tyL G cc nL ret nm own Ts d wd pc (ev_fn (ev_ifne tgt (pc + 3))) := by
  refine ev_pure fun L stk h x hx => ?_
  unfold ev_ifne at hx
  split at hx
  · split at hx
    · rename_i hg; cases hx; exact ⟨_, _, rfl, fun p e R s m args below meth c D cA lo O X H locs cells slots ls Q hw ho hl k => lv_if_ne X.1.1 X.1.2.1 hd ht (fun _ => k) (fun q => absurd q hg)⟩
    · rename_i hg; cases hx; exact ⟨_, _, rfl, fun p e R s m args below meth c D cA lo O X H locs cells slots ls Q hw ho hl k => lv_if_ne X.1.1 X.1.2.1 hd ht (fun q => absurd q hg) (fun _ => k)⟩
  · cases hx
def ev_iflt (tg nx : Nat) : ev_Fn := fun L stk h => match stk with
  | .int x :: r => if x < 0 then some (.inl (tg, L, r, h)) else some (.inl (nx, L, r, h))
  | _ => none
theorem ok_iflt {off : Int} {tgt : Nat} (hd : decode cc pc = .ok (.ifCond .lt off, 3)) (ht : (pc : Int) + off = (tgt : Int)) : ev_Good l cl tyL G cc nL ret nm own Ts d wd pc (ev_fn (ev_iflt tgt (pc + 3))) := by
  refine ev_pure fun L stk h x hx => ?_
  unfold ev_iflt at hx
  split at hx
  · split at hx
    · rename_i hg; cases hx; exact ⟨_, _, rfl, fun p e R s m args below meth c D cA lo O X H locs cells slots ls Q hw ho hl k => lv_if_lt X.1.1 X.1.2.1 hd ht (fun _ => k) (fun q => absurd hg q)⟩
    · rename_i hg; cases hx; exact ⟨_, _, rfl, fun p e R s m args below meth c D cA lo O X H locs cells slots ls Q hw ho hl k => lv_if_lt X.1.1 X.1.2.1 hd ht (fun q => absurd q hg) (fun _ => k)⟩
  · cases hx
def ev_ifge (tg nx : Nat) : ev_Fn := fun L stk h => match stk with
  | .int x :: r => if 0 ≤ x then some (.inl (tg, L, r, h)) else some (.inl (nx, L, r, h))
  | _ => none
theorem ok_ifge {off : Int} {tgt : Nat} (hd : decode cc pc = .ok (.ifCond .ge off, 3)) (ht : (pc : Int) + off = (tgt : Int)) : ev_Good l cl tyL G cc nL ret nm own Ts d wd pc (ev_fn (ev_ifge tgt (pc + 3))) := by
  refine ev_pure fun L stk h x hx => ?_
  unfold ev_ifge at hx
  split at hx
  · split at hx
    · rename_i hg; cases hx; exact ⟨_, _, rfl, fun p e R s m args below meth c D cA lo O X H locs cells slots ls Q hw ho hl k => lv_if_ge X.1.1 X.1.2.1 hd ht (fun _ => k) (fun q => absurd hg q)⟩
    · rename_i hg; cases hx; exact ⟨_, _, rfl, fun p e R s m args below meth c D cA lo O X H locs cells slots ls Q hw ho hl k => lv_if_ge X.1.1 X.1.2.1 hd ht (fun q => absurd q hg) (fun _ => k)⟩
  · cases hx
def ev_ifgt (tg nx : Nat) : ev_Fn := fun L stk h => match stk with
  | .int x :: r => if 0 < x then some (.inl (tg, L, r, h)) else some (.inl (nx, L, r, h))
  | _ => none
theorem ok_ifgt {off : Int} {tgt : Nat} (hd : decode cc pc = .ok (.ifCond .gt off, 3)) (ht : (pc : Int) + off = (tgt : Int)) : ev_Good l cl tyL G cc nL ret nm own Ts d wd pc (ev_fn (ev_ifgt tgt (pc + 3))) := by
  refine ev_pure fun L stk h x hx => ?_
  unfold ev_ifgt at hx
  split at hx
  · split at hx
    · rename_i hg; cases hx; exact ⟨_, _, rfl, fun p e R s m args below meth c D cA lo O X H locs cells slots ls Q hw ho hl k => lv_if_gt X.1.1 X.1.2.1 hd ht (fun _ => k) (fun q => absurd hg q)⟩
    · rename_i hg; cases hx; exact ⟨_, _, rfl, fun p e R s m args below meth c D cA lo O X H locs cells slots ls Q hw ho hl k => lv_if_gt X.1.1 X.1.2.1 hd ht (fun q => absurd q hg) (fun _ => k)⟩
  · cases hx
def ev_ifle (tg nx : Nat) : ev_Fn := fun L stk h => match stk with
  | .int x :: r => if x ≤ 0 then some (.inl (tg, L, r, h)) else some (.inl (nx, L, r, h))
  | _ => none
theorem ok_ifle {off : Int} {tgt : Nat} (hd : decode cc pc = .ok (.ifCond .le off, 3)) (ht : (pc : Int) + off = (tgt : Int)) : ev_Good l cl tyL G cc nL ret nm own Ts d wd pc (ev_fn (ev_ifle tgt (pc + 3))) := by
  refine ev_pure fun L stk h x hx => ?_
  unfold ev_ifle at hx
  split at hx
  · split at hx
    · rename_i hg; cases hx; exact ⟨_, _, rfl, fun p e R s m args below meth c D cA lo O X H locs cells slots ls Q hw ho hl k => lv_if_le X.1.1 X.1.2.1 hd ht (fun _ => k) (fun q => absurd hg q)⟩
    · rename_i hg; cases hx; exact ⟨_, _, rfl, fun p e R s m args below meth c D cA lo O X H locs cells slots ls Q hw ho hl k => lv_if_le X.1.1 X.1.2.1 hd ht (fun q => absurd q hg) (fun _ => k)⟩
  · cases hx
def ev_icmpeq (tg nx : Nat) : ev_Fn := fun L stk h => match stk with
  | .int y :: .int x :: r => if x = y then some (.inl (tg, L, r, h)) else some (.inl (nx, L, r, h))
  | _ => none
theorem ok_icmpeq {off : Int} {tgt : Nat} (hd : decode cc pc = .ok (.if_icmp .eq off, 3)) (ht : (pc : Int) + off = (tgt : Int)) : ev_Good l cl tyL G cc nL ret nm own Ts d wd pc (ev_fn (ev_icmpeq tgt (pc + 3))) := by
  refine ev_pure fun L stk h x hx => ?_
  unfold ev_icmpeq at hx
  split at hx
  · split at hx
    · rename_i hg; cases hx; exact ⟨_, _, rfl, fun p e R s m args below meth c D cA lo O X H locs cells slots ls Q hw ho hl k => lv_icmp_eq X.1.1 X.1.2.1 hd ht (fun _ => k) (fun q => absurd hg q)⟩
    · rename_i hg; cases hx; exact ⟨_, _, rfl, fun p e R s m args below meth c D cA lo O X H locs cells slots ls Q hw ho hl k => lv_icmp_eq X.1.1 X.1.2.1 hd ht (fun q => absurd q hg) (fun _ => k)⟩
  · cases hx
def ev_icmpne (tg nx : Nat) : ev_Fn := fun L stk h => match stk with
  | .int y :: .int x :: r => if ¬ x = y then some (.inl (tg, L, r, h)) else some (.inl (nx, L, r, h))
  | _ => none
theorem ok_icmpne {off : Int} {tgt : Nat} (hd : decode cc pc = .ok (.if_icmp .ne off, 3)) (ht : (pc : Int) + off = (tgt : Int)) : ev_Good l cl tyL G cc nL ret nm own Ts d wd pc (ev_fn (ev_icmpne tgt (pc + 3))) := by
  refine ev_pure fun L stk h x hx => ?_
  unfold ev_icmpne at hx
  split at hx
  · split at hx
    · rename_i hg; cases hx; exact ⟨_, _, rfl, fun p e R s m args below meth c D cA lo O X H locs cells slots ls Q hw ho hl k => lv_icmp_ne X.1.1 X.1.2.1 hd ht (fun _ => k) (fun q => absurd q hg)⟩
    · rename_i hg; cases hx; exact ⟨_, _, rfl, fun p e R s m args below meth c D cA lo O X H locs cells slots ls Q hw ho hl k => lv_icmp_ne X.1.1 X.1.2.1 hd ht (fun q => absurd q hg) (fun _ => k)⟩
  · cases hx
def ev_icmplt (tg nx : Nat) : ev_Fn := fun L stk h => match stk with
  | .int y :: .int x :: r => if x < y then some (.inl (tg, L, r, h)) else some (.inl (nx, L, r, h))
  | _ => none
theorem ok_icmplt {off : Int} {tgt : Nat} (hd : decode cc pc = .ok (.if_icmp .lt off, 3)) (ht : (pc : Int) + off = (tgt : Int)) : ev_Good l cl tyL G cc nL ret nm own Ts d wd pc (ev_fn (ev_icmplt tgt (pc + 3))) := by
  refine ev_pure fun L stk h x hx => ?_
  unfold ev_icmplt at hx
  split at hx
  · split at hx
    · rename_i hg; cases hx; exact ⟨_, _, rfl, fun p e R s m args below meth c D cA lo O X H locs cells slots ls Q hw ho hl k => lv_icmp_lt X.1.1 X.1.2.1 hd ht (fun _ => k) (fun q => absurd hg q)⟩
    · rename_i hg; cases hx; exact ⟨_, _, rfl, fun p e R s m args below meth c D cA lo O X H locs cells slots ls Q hw ho hl k => lv_icmp_lt X.1.1 X.1.2.1 hd ht (fun q => absurd q hg) (fun _ => k)⟩
  · cases hx
def ev_icmpge (tg nx : Nat) : ev_Fn := fun L stk h => match stk with
  | .int y :: .int x :: r => if y ≤ x then some (.inl (tg, L, r, h)) else some (.inl (nx, L, r, h))
  | _ => none
theorem ok_icmpge {off : Int} {tgt : Nat} (hd : decode cc pc = .ok (.if_icmp .ge off, 3)) (ht : (pc : Int) + off = (tgt : Int)) : ev_Good l cl tyL G cc nL ret nm own Ts d wd pc (ev_fn (ev_icmpge tgt (pc + 3))) := by
  refine ev_pure fun L stk h x hx => ?_
  unfold ev_icmpge at hx
  split at hx
  · split at hx
    · rename_i hg; cases hx; exact ⟨_, _, rfl, fun p e R s m args below meth c D cA lo O X H locs cells slots ls Q hw ho hl k => lv_icmp_ge X.1.1 X.1.2.1 hd ht (fun _ => k) (fun q => absurd hg q)⟩
    · rename_i hg; cases hx; exact ⟨_, _, rfl, fun p e R s m args below meth c D cA lo O X H locs cells slots ls Q hw ho hl k => lv_icmp_ge X.1.1 X.1.2.1 hd ht (fun q => absurd q hg) (fun _ => k)⟩
  · cases hx
def ev_icmpgt (tg nx : Nat) : ev_Fn := fun L stk h => match stk with
  | .int y :: .int x :: r => if y < x then some (.inl (tg, L, r, h)) else some (.inl (nx, L, r, h))
  | _ => none
theorem ok_icmpgt {off : Int} {tgt : Nat} (hd : decode cc pc = .ok (.if_icmp .gt off, 3)) (ht : (pc : Int) + off = (tgt : Int)) : ev_Good l cl tyL G cc nL ret nm own Ts d wd pc (ev_fn (ev_icmpgt tgt (pc + 3))) := by
  refine ev_pure fun L stk h x hx => ?_
  unfold ev_icmpgt at hx
  split at hx
  · split at hx
    · rename_i hg; cases hx; exact ⟨_, _, rfl, fun p e R s m args below meth c D cA lo O X H locs cells slots ls Q hw ho hl k => lv_icmp_gt X.1.1 X.1.2.1 hd ht (fun _ => k) (fun q => absurd hg q)⟩
    · rename_i hg; cases hx; exact ⟨_, _, rfl, fun p e R s m args below meth c D cA lo O X H locs cells slots ls Q hw ho hl k => lv_icmp_gt X.1.1 X.1.2.1 hd ht (fun q => absurd q hg) (fun _ => k)⟩
  · cases hx
def ev_icmple (tg nx : Nat) : ev_Fn := fun L stk h => match stk with
  | .int y :: .int x :: r => if x ≤ y then some (.inl (tg, L, r, h)) else some (.inl (nx, L, r, h))
  | _ => none
theorem ok_icmple {off : Int} {tgt : Nat} (hd : decode cc pc = .ok (.if_icmp .le off, 3)) (ht : (pc : Int) + off = (tgt : Int)) : ev_Good l cl tyL G cc nL ret nm own Ts d wd pc (ev_fn (ev_icmple tgt (pc + 3))) := by
  refine ev_pure fun L stk h x hx => ?_
  unfold ev_icmple at hx
  split at hx
  · split at hx
    · rename_i hg; cases hx; exact ⟨_, _, rfl, fun p e R s m args below meth c D cA lo O X H locs cells slots ls Q hw ho hl k => lv_icmp_le X.1.1 X.1.2.1 hd ht (fun _ => k) (fun q => absurd hg q)⟩
    · rename_i hg; cases hx; exact ⟨_, _, rfl, fun p e R s m args below meth c D cA lo O X H locs cells slots ls Q hw ho hl k => lv_icmp_le X.1.1 X.1.2.1 hd ht (fun q => absurd q hg) (fun _ => k)⟩
  · cases hx
def ev_ifnull (tg nx : Nat) : ev_Fn := fun L stk h => match stk with
  | .null :: r => some (.inl (tg, L, r, h))
  | .ref _ :: r => some (.inl (nx, L, r, h))
  | _ => none
theorem ok_ifnull {off : Int} {tgt : Nat} (hd : decode cc pc = .ok (.ifnull off, 3)) (ht : (pc : Int) + off = (tgt : Int)) : ev_Good l cl tyL G cc nL ret nm own Ts d wd pc (ev_fn (ev_ifnull tgt (pc + 3))) := by
  refine ev_pure fun L stk h x hx => ?_
  unfold ev_ifnull at hx
  split at hx
  · cases hx; exact ⟨_, _, rfl, fun p e R s m args below meth c D cA lo O X H locs cells slots ls Q hw ho hl k => lv_ifnullN X.1.1 X.1.2.1 hd ht k⟩
  · cases hx; exact ⟨_, _, rfl, fun p e R s m args below meth c D cA lo O X H locs cells slots ls Q hw ho hl k => lv_ifnull X.1.1 X.1.2.1 hd k⟩
  · cases hx
def ev_ifnonnull (tg nx : Nat) : ev_Fn := fun L stk h => match stk with
  | .null :: r => some (.inl (nx, L, r, h))
  | .ref _ :: r => some (.inl (tg, L, r, h))
  | _ => none
theorem ok_ifnonnull {off : Int} {tgt : Nat} (hd : decode cc pc = .ok (.ifnonnull off, 3)) (ht : (pc : Int) + off = (tgt : Int)) : ev_Good l cl tyL G cc nL ret nm own Ts d wd pc (ev_fn (ev_ifnonnull tgt (pc + 3))) := by
  refine ev_pure fun L stk h x hx => ?_
  unfold ev_ifnonnull at hx
  split at hx
  · cases hx; exact ⟨_, _, rfl, fun p e R s m args below meth c D cA lo O X H locs cells slots ls Q hw ho hl k => lv_ifnonnullN X.1.1 X.1.2.1 hd k⟩
  · cases hx; exact ⟨_, _, rfl, fun p e R s m args below meth c D cA lo O X H locs cells slots ls Q hw ho hl k => lv_ifnonnull X.1.1 X.1.2.1 hd ht k⟩
  · cases hx
end OPS
