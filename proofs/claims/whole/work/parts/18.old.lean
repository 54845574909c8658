/-! Steps that look below (the script, statics, class objects), other arrays, arraycopy. -/
section OOPS
variable {l : Launch} {cl : List vw_C} {tyL : List FieldType} {G : Nat → (State → Prop) → Prop} {cc : ByteArray} {nL : Nat} {ret : Option FieldType} {nm own : String} {Ts : List Cond} {d wd pc : Nat}
def ev_gets (v : Value) (nx : Nat) : ev_Fn := fun L stk h => some (.inl (nx, L, v :: stk, h))
theorem ok_gets {C n d' : String} {v : Value} {ix : Nat} (hZ : ∀ (lo : Nat) (O : State → Prop) (s : State), G lo O → O s → va_Z C n d' v (fun q => lo ≤ q) s s.heap) (hlink : Cond.fieldLink own ix C n d' ∈ Ts) (hd : decode cc pc = .ok (.getstatic ix, 3)) : ev_Good l cl tyL G cc nL ret nm own Ts d wd pc (ev_fn (ev_gets v (pc + 3))) := by
  refine ev_pure fun L stk h x hx => ?_
  unfold ev_gets at hx
  cases hx
  refine ⟨_, _, rfl, fun p e R s m args below meth c D cA lo O X H locs cells slots ls Q hw ho hl k => ?_⟩
  obtain ⟨cf, kf, fi, f, a, cell, h1, h2, h3, h4, h5, h6, h7, h8⟩ := hZ lo O s X.2.2.2.2.1 X.2.2.1
  exact W.gets X.1.1 X.1.2.1 X.1.2.2.2.1 (X.1.2.2.2.2.1 _ hlink) h1 h2 h3 h4 (by rw [ho a (Nat.not_le.mp h8)]; exact h5) (fun e => by rw [e] at h6; cases h6) h7 rfl hd k
-- length of an array that may be the empty one below
def ev_alenE (e0 K nx : Nat) : ev_Fn := fun L stk h => match stk with
  | .ref a :: r => if a = e0 then some (.inl (nx, L, .int 0 :: r, h)) else match h.2.2 a with
    | some (.inl (t, x)) => if t < K then some (.inl (nx, L, .int (Int32.ofNat x.1) :: r, h)) else none
    | _ => none
  | _ => none
theorem ok_alenE {e0 K : Nat} {ty : FieldType} {fz : Nat → Value} (hT : ∀ (lo : Nat) (O : State → Prop) (s : State), G lo O → O s → va_T ty e0 0 fz (fun q => lo ≤ q) s s.heap) (hK : tyL.length = K) (hd : decode cc pc = .ok (.arraylength, 1)) : ev_Good l cl tyL G cc nL ret nm own Ts d wd pc (ev_fn (ev_alenE e0 K (pc + 1))) := by
  refine ev_pure fun L stk h x hx => ?_
  unfold ev_alenE at hx
  split at hx
  · rename_i a r
    split at hx
    · rename_i he
      subst he
      cases hx
      refine ⟨_, _, rfl, fun p e R s m args below meth c D cA lo O X H locs cells slots ls Q hw ho hl kk => ?_⟩
      obtain ⟨cell, h1, h2, h3, h4, h5, h6, h7⟩ := hT lo O s X.2.2.2.2.1 X.2.2.1
      exact W.alen (n := 0) X.1.1 X.1.2.1 (by rw [ho a (Nat.not_le.mp h7)]; exact h1) h2 h5 rfl rfl hd kk
    · split at hx
      · rename_i t x0 hf
        split at hx
        · rename_i hg
          cases hx
          obtain ⟨ty', hty⟩ : ∃ ty', tyL[t]? = some ty' := ⟨_, List.getElem?_eq_getElem (by omega)⟩
          exact ⟨_, _, rfl, fun p e R s m args below meth c D cA lo O X H locs cells slots ls Q hw ho hl kk => va_alen X.1.1 X.1.2.1 X.2.1 (ev_P1 (hw.2 a _ hf).2) 0 t rfl (ev_ty_get hty) rfl hd kk⟩
        · cases hx
      · cases hx
  · cases hx
-- the script
def ev_sld (b n : Nat) (xs : Nat → Int32) (nx : Nat) : ev_Fn := fun L stk h => match stk with
  | .int i :: .ref a :: r => if a = b ∧ ¬ (i < 0 ∨ n ≤ i.toNatClampNeg) then some (.inl (nx, L, .int (xs i.toNatClampNeg) :: r, h)) else none
  | _ => none
theorem ok_sld {b n : Nat} {xs : Nat → Int32} (hX : ∀ (lo : Nat) (O : State → Prop) (s : State), G lo O → O s → va_X b n xs s s.heap ∧ b < lo) (hd : decode cc pc = .ok (.iaload, 1)) : ev_Good l cl tyL G cc nL ret nm own Ts d wd pc (ev_fn (ev_sld b n xs (pc + 1))) := by
  refine ev_pure fun L stk h x hx => ?_
  unfold ev_sld at hx
  split at hx
  · rename_i i a r
    split at hx
    · rename_i hg
      obtain ⟨hg0, hg1⟩ := hg
      subst hg0
      cases hx
      refine ⟨_, _, rfl, fun p e R s m args below meth c D cA lo O X H locs cells slots ls Q hw ho hl kk => ?_⟩
      obtain ⟨⟨scr, h1, h2, h3, h4, h5⟩, hlt⟩ := hX lo O s X.2.2.2.2.1 X.2.2.1
      have hi : i.toNatClampNeg < n := Nat.not_le.mp fun q => hg1 (Or.inr q)
      exact W.iald (v := .int (xs i.toNatClampNeg)) X.1.1 X.1.2.1 (by rw [ho a hlt]; exact h1) h2 h3 (by rw [h4]; exact hg1) (h5 _ hi) rfl rfl hd kk
    · cases hx
  · cases hx
def ev_slen (b n nx : Nat) : ev_Fn := fun L stk h => match stk with
  | .ref a :: r => if a = b then some (.inl (nx, L, .int (Int32.ofNat n) :: r, h)) else none
  | _ => none
theorem ok_slen {b n : Nat} {xs : Nat → Int32} (hX : ∀ (lo : Nat) (O : State → Prop) (s : State), G lo O → O s → va_X b n xs s s.heap ∧ b < lo) (hd : decode cc pc = .ok (.arraylength, 1)) : ev_Good l cl tyL G cc nL ret nm own Ts d wd pc (ev_fn (ev_slen b n (pc + 1))) := by
  refine ev_pure fun L stk h x hx => ?_
  unfold ev_slen at hx
  split at hx
  · rename_i a r
    split at hx
    · rename_i hg0
      subst hg0
      cases hx
      refine ⟨_, _, rfl, fun p e R s m args below meth c D cA lo O X H locs cells slots ls Q hw ho hl kk => ?_⟩
      obtain ⟨⟨scr, h1, h2, h3, h4, h5⟩, hlt⟩ := hX lo O s X.2.2.2.2.1 X.2.2.1
      exact W.alen (n := Int32.ofNat n) X.1.1 X.1.2.1 (by rw [ho a hlt]; exact h1) h2 (by rw [h4]) rfl rfl hd kk
    · cases hx
  · cases hx
-- class objects
theorem ok_ldcw {ix : Nat} {v : Int32} (hw : Cond.constant own ix v ∈ Ts) (hd : decode cc pc = .ok (.ldc_w ix, 3)) : ev_Good l cl tyL G cc nL ret nm own Ts d wd pc (ev_fn (ev_ci v (pc + 3))) := by
  refine ev_pure fun L stk h x hx => ?_
  unfold ev_ci at hx
  cases hx; exact ⟨_, _, rfl, fun p e R s m args below meth c D cA lo O X H locs cells slots ls Q hw' ho hl k => lv_ldcw X.1.1 X.1.2.1 X.1.2.2.2.1 (X.1.2.2.2.2.1 _ hw) hd k⟩
theorem ok_ldcM {C : String} {mi ix : Nat} (hM : ∀ (lo : Nat) (O : State → Prop) (s : State), G lo O → O s → va_Mi C mi s) (hcl : Cond.classLink own ix C ∈ Ts) (hd : decode cc pc = .ok (.ldc ix, 2)) : ev_Good l cl tyL G cc nL ret nm own Ts d wd pc (ev_fn (ev_gets (.ref mi) (pc + 2))) := by
  refine ev_pure fun L stk h x hx => ?_
  unfold ev_gets at hx
  cases hx; exact ⟨_, _, rfl, fun p e R s m args below meth c D cA lo O X H locs cells slots ls Q hw' ho hl k => va_ldcM X.1.1 X.1.2.1 X.1.2.2.2.1 (X.1.2.2.2.2.1 _ hcl) (hM lo O s X.2.2.2.2.1 X.2.2.1) hd k⟩
def ev_getC (t mi nx : Nat) : ev_Fn := fun L stk h => match stk with
  | .ref a :: r => match h.2.2 a with
    | some (.inl (t', _)) => if t' = t ∧ (r.map fun v => v.category).sum ≤ 8 then some (.inl (nx, L, .ref mi :: r, h)) else none
    | _ => none
  | _ => none
theorem ok_getC {t mi ix : Nat} {E C : String} (hC : "[" ++ (FieldType.object E).toString = C) (ht : tyL[t]? = some (.object E)) (hd0 : 1 ≤ d) (hw0 : 22 ≤ wd) (hM : ∀ (lo : Nat) (O : State → Prop) (s : State), G lo O → O s → va_Mi C mi s ∧ va_Nw (.declares ⟨"java/lang/Object", "getClass", "()Ljava/lang/Class;"⟩) s) (w1 : Cond.methodLink own ix ⟨"java/lang/Object", "getClass", "()Ljava/lang/Class;"⟩ ∈ Ts)
    (w3 : Cond.selects C ⟨"java/lang/Object", "getClass", "()Ljava/lang/Class;"⟩ ⟨"java/lang/Object", "getClass", "()Ljava/lang/Class;"⟩ ∈ Ts) (w4 : Cond.instanceMethod ⟨"java/lang/Object", "getClass", "()Ljava/lang/Class;"⟩ ∈ Ts) (w5 : Cond.native ⟨"java/lang/Object", "getClass", "()Ljava/lang/Class;"⟩ ∈ Ts) (hd : decode cc pc = .ok (.invokevirtual ix, 3)) : ev_Good l cl tyL G cc nL ret nm own Ts d wd pc (ev_fn (ev_getC t mi (pc + 3))) := by
  refine ev_pure fun L stk h x hx => ?_
  unfold ev_getC at hx
  split at hx
  · rename_i a r
    split at hx
    · rename_i t' x0 hf
      split at hx
      · rename_i hg
        obtain ⟨hg0, hg1⟩ := hg
        subst hg0
        cases hx
        refine ⟨_, _, rfl, fun p e R s m args below meth c D cA lo O X H locs cells slots ls Q hw ho hl kk => ?_⟩
        have hts := X.1.2.2.2.2.1
        obtain ⟨hm, hdc⟩ := hM lo O s X.2.2.2.2.1 X.2.2.1
        have hcl : s.vm.findClass C = some (cA t') := va_nmO (X.2.1.2 t' _ (ev_ty_get ht)).2 hC
        refine va_getC X.1.1 X.1.2.1 (by rw [X.1.2.2.1, hl.1]) X.1.2.2.2.1 (hts _ w1) (va_Dc.use hdc) (hts _ w3) (hts _ w4) (hts _ w5) hm ⟨vp_cell (cA t') x0, (hw.2 a _ hf).2, ?_, ?_⟩ (Nat.le_trans hd0 X.2.2.2.2.2.1) (Nat.le_trans (by omega) X.2.2.2.2.2.2) hd kk
        · obtain ⟨n0, y⟩ := x0
          rcases y with y | y | y | y | y <;> rfl
        · obtain ⟨n0, y⟩ := x0
          rcases y with y | y | y | y | y <;> exact hcl
      · cases hx
    · cases hx
  · cases hx
def ev_castA (t nx : Nat) : ev_Fn := fun L stk h => match stk with
  | .ref a :: r => match h.2.2 a with
    | some (.inl (t', _)) => if t' = t then some (.inl (nx, L, .ref a :: r, h)) else none
    | _ => none
  | _ => none
theorem ok_castA {t ix : Nat} {E C : String} (hC : "[" ++ (FieldType.object E).toString = C) (ht : tyL[t]? = some (.object E)) (hcl : Cond.classLink own ix C ∈ Ts) (hd : decode cc pc = .ok (.checkcast ix, 3)) : ev_Good l cl tyL G cc nL ret nm own Ts d wd pc (ev_fn (ev_castA t (pc + 3))) := by
  refine ev_pure fun L stk h x hx => ?_
  unfold ev_castA at hx
  split at hx
  · rename_i a r
    split at hx
    · rename_i t' x0 hf
      split at hx
      · rename_i hg
        subst hg
        cases hx
        exact ⟨_, _, rfl, fun p e R s m args below meth c D cA lo O X H locs cells slots ls Q hw ho hl kk => va_castA X.1.1 X.1.2.1 X.1.2.2.2.1 (X.1.2.2.2.2.1 _ hcl) (ev_P1 (hw.2 a _ hf).2) 0 rfl (va_nmO (X.2.1.2 t' _ (ev_ty_get ht)).2 hC) hd kk⟩
      · cases hx
    · cases hx
  · cases hx
-- arrays of longs (kind 1) and of booleans (kind 2)
def ev_lald (nx : Nat) : ev_Fn := fun L stk h => match stk with
  | .int i :: .ref a :: r => match h.2.2 a with
    | some (.inl (t, n, .inr (.inl f))) => if t = 1 ∧ ¬ (i < 0 ∨ n ≤ i.toNatClampNeg) then some (.inl (nx, L, .long (f i.toNatClampNeg) :: r, h)) else none
    | _ => none
  | _ => none
theorem ok_lald (ht : tyL[1]? = some .long) (hd : decode cc pc = .ok (.laload, 1)) : ev_Good l cl tyL G cc nL ret nm own Ts d wd pc (ev_fn (ev_lald (pc + 1))) := by
  refine ev_pure fun L stk h x hx => ?_
  unfold ev_lald at hx
  split at hx
  · rename_i i a r
    split at hx
    · rename_i t n0 f hf
      split at hx
      · rename_i hg
        obtain ⟨hg0, hg1⟩ := hg
        subst hg0
        cases hx
        exact ⟨_, _, rfl, fun p e R s m args below meth c D cA lo O X H locs cells slots ls Q hw ho hl kk => va_lald X.1.1 X.1.2.1 X.2.1 (ev_P1 (hw.2 a _ hf).2) 0 1 rfl (ev_ty_get ht) hg1 hd kk⟩
      · cases hx
    · cases hx
  · cases hx
def ev_zald (nx : Nat) : ev_Fn := fun L stk h => match stk with
  | .int i :: .ref a :: r => match h.2.2 a with
    | some (.inl (t, n, .inl f)) => if t = 2 ∧ ¬ (i < 0 ∨ n ≤ i.toNatClampNeg) then some (.inl (nx, L, .int (f i.toNatClampNeg) :: r, h)) else none
    | _ => none
  | _ => none
theorem ok_zald (ht : tyL[2]? = some .boolean) (hd : decode cc pc = .ok (.baload, 1)) : ev_Good l cl tyL G cc nL ret nm own Ts d wd pc (ev_fn (ev_zald (pc + 1))) := by
  refine ev_pure fun L stk h x hx => ?_
  unfold ev_zald at hx
  split at hx
  · rename_i i a r
    split at hx
    · rename_i t n0 f hf
      split at hx
      · rename_i hg
        obtain ⟨hg0, hg1⟩ := hg
        subst hg0
        cases hx
        exact ⟨_, _, rfl, fun p e R s m args below meth c D cA lo O X H locs cells slots ls Q hw ho hl kk => va_zald X.1.1 X.1.2.1 X.2.1 (ev_P1 (hw.2 a _ hf).2) 0 2 rfl (ev_ty_get ht) hg1 hd kk⟩
      · cases hx
    · cases hx
  · cases hx
def ev_last (nx : Nat) : ev_Fn := fun L stk h => match stk with
  | .long x :: .int i :: .ref a :: r => match h.2.2 a with
    | some (.inl (t, n, .inr (.inl f))) => if t = 1 ∧ ¬ (i < 0 ∨ n ≤ i.toNatClampNeg) then some (.inl (nx, L, r, ev_put h a (.inl (1, n, .inr (.inl (va_up f i.toNatClampNeg x)))))) else none
    | _ => none
  | _ => none
theorem ok_last (ht : tyL[1]? = some .long) (hd : decode cc pc = .ok (.lastore, 1)) : ev_Good l cl tyL G cc nL ret nm own Ts d wd pc (ev_fn (ev_last (pc + 1))) := by
  refine ev_wr fun L stk h x hx => ?_
  unfold ev_last at hx
  split at hx
  · rename_i x0 i a r
    split at hx
    · rename_i t n0 f hf
      split at hx
      · rename_i hg
        obtain ⟨hg0, hg1⟩ := hg
        subst hg0
        cases hx
        refine ⟨_, _, a, _, _, rfl, hf, fun p e R s m args below meth c D cA lo O X H locs cells slots ls Q hw kk => ?_⟩
        refine W.last X.1.1 X.1.2.1 (hw.2 a _ hf).2 ((X.2.1.2 1 _ (ev_ty_get ht)).1 n0 (fun j => .long (f j))) (fun h => by cases h) (by show ¬ (i < 0 ∨ (arrV _ _ _).slots.size ≤ _); rw [arrV_size]; exact hg1) rfl rfl hd fun H1 e z oq => ?_
        refine kk H1 _ z oq ?_
        show H1[a]? = some (vp_cell _ _)
        rw [e]
        show some ((vp_cell _ _).setSlot _ _) = _
        rw [vp_cell_l, vp_cell_l, arrV_store]
        congr 2
        funext q
        by_cases hq : q = i.toNatClampNeg
        · subst hq
          simp [updV, va_up]
        · simp [updV, va_up, hq]
      · cases hx
    · cases hx
  · cases hx
def ev_zast (nx : Nat) : ev_Fn := fun L stk h => match stk with
  | .int x :: .int i :: .ref a :: r => match h.2.2 a with
    | some (.inl (t, n, .inl f)) => if t = 2 ∧ ¬ (i < 0 ∨ n ≤ i.toNatClampNeg) ∧ vp_nar .boolean x = x then some (.inl (nx, L, r, ev_put h a (.inl (2, n, .inl (va_up f i.toNatClampNeg x))))) else none
    | _ => none
  | _ => none
theorem ok_zast (ht : tyL[2]? = some .boolean) (hd : decode cc pc = .ok (.bastore, 1)) : ev_Good l cl tyL G cc nL ret nm own Ts d wd pc (ev_fn (ev_zast (pc + 1))) := by
  refine ev_wr fun L stk h x hx => ?_
  unfold ev_zast at hx
  split at hx
  · rename_i x0 i a r
    split at hx
    · rename_i t n0 f hf
      split at hx
      · rename_i hg
        obtain ⟨hg0, hg1, hg2⟩ := hg
        subst hg0
        cases hx
        refine ⟨_, _, a, _, _, rfl, hf, fun p e R s m args below meth c D cA lo O X H locs cells slots ls Q hw kk => ?_⟩
        refine W.zast X.1.1 X.1.2.1 (hw.2 a _ hf).2 ((X.2.1.2 2 _ (ev_ty_get ht)).1 n0 (fun j => .int (f j))) (fun h => by cases h) (by show ¬ (i < 0 ∨ (arrV _ _ _).slots.size ≤ _); rw [arrV_size]; exact hg1) rfl rfl hd fun H1 e z oq => ?_
        refine kk H1 _ z oq ?_
        show H1[a]? = some (vp_cell _ _)
        rw [e]
        show some ((vp_cell _ _).setSlot _ _) = _
        rw [vp_cell_i, vp_cell_i, arrV_store]
        congr 2
        funext q
        by_cases hq : q = i.toNatClampNeg
        · subst hq
          have e2 : narrow .boolean (.int x0) = .int x0 := by
            have e3 : narrow .boolean (.int x0) = .int (vp_nar .boolean x0) := rfl
            rw [e3, hg2]
          simp [updV, va_up, e2]
        · simp [updV, va_up, hq]
      · cases hx
    · cases hx
  · cases hx
def ev_newl (nx : Nat) : ev_Fn := fun L stk h => match stk with
  | .int n :: r => if ¬ n < 0 ∧ n.toNatClampNeg * 8 ≤ 536870912 then some (.inl (nx, L, .ref h.1 :: r, ev_new h n.toNatClampNeg (.inl (1, n.toNatClampNeg, .inr (.inl (fun _ => 0)))))) else none
  | _ => none
theorem ok_newl (ht : tyL[1]? = some .long) (hw : Cond.arrayClass (newarray.typeOf .long) ∈ Ts) (hd : decode cc pc = .ok (.newarray .long, 2)) : ev_Good l cl tyL G cc nL ret nm own Ts d wd pc (ev_fn (ev_newl (pc + 2))) := by
  refine ev_mk fun L stk h x hx => ?_
  unfold ev_newl at hx
  split at hx
  · rename_i n0 r
    split at hx
    · rename_i hg
      obtain ⟨hg0, hg1⟩ := hg
      cases hx
      refine ⟨_, _, n0.toNatClampNeg, _, rfl, fun p e R s m args below meth c D cA lo O X H locs cells slots ls Q hz r1 r2 kk => ?_⟩
      refine va_newaK X.1.1 X.1.2.1 (X.1.2.2.2.2.1 _ hw) rfl hd rfl hg0 rfl hg1 r1 r2 hz fun H1 cI e1 z1 o1 hAr hNm => ?_
      have hc : cI = cA 1 := Option.some.inj (hNm.symm.trans (X.2.1.2 1 _ (ev_ty_get ht)).2)
      subst hc
      rw [← hz] at e1 z1 o1
      exact kk H1 z1 o1 e1
    · cases hx
  · cases hx
def ev_newz (nx : Nat) : ev_Fn := fun L stk h => match stk with
  | .int n :: r => if ¬ n < 0 ∧ n.toNatClampNeg * 1 ≤ 536870912 then some (.inl (nx, L, .ref h.1 :: r, ev_new h n.toNatClampNeg (.inl (2, n.toNatClampNeg, .inl (fun _ => 0))))) else none
  | _ => none
theorem ok_newz (ht : tyL[2]? = some .boolean) (hw : Cond.arrayClass (newarray.typeOf .boolean) ∈ Ts) (hd : decode cc pc = .ok (.newarray .boolean, 2)) : ev_Good l cl tyL G cc nL ret nm own Ts d wd pc (ev_fn (ev_newz (pc + 2))) := by
  refine ev_mk fun L stk h x hx => ?_
  unfold ev_newz at hx
  split at hx
  · rename_i n0 r
    split at hx
    · rename_i hg
      obtain ⟨hg0, hg1⟩ := hg
      cases hx
      refine ⟨_, _, n0.toNatClampNeg, _, rfl, fun p e R s m args below meth c D cA lo O X H locs cells slots ls Q hz r1 r2 kk => ?_⟩
      refine va_newaK X.1.1 X.1.2.1 (X.1.2.2.2.2.1 _ hw) rfl hd rfl hg0 rfl hg1 r1 r2 hz fun H1 cI e1 z1 o1 hAr hNm => ?_
      have hc : cI = cA 2 := Option.some.inj (hNm.symm.trans (X.2.1.2 2 _ (ev_ty_get ht)).2)
      subst hc
      rw [← hz] at e1 z1 o1
      exact kk H1 z1 o1 e1
    · cases hx
  · cases hx
end OOPS
