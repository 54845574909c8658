/-! Steps that write the heap and make cells. -/
section WOPS
variable {l : Launch} {cl : List vw_C} {tyL : List FieldType} {G : Nat → (State → Prop) → Prop} {cc : ByteArray} {nL : Nat} {ret : Option FieldType} {nm own : String} {Ts : List Cond} {d wd pc : Nat}
theorem ev_wr {f : ev_Fn} (hp : ∀ (L : ev_L) (stk : List Value) (h : ev_H) (x : ev_S ⊕ ev_O), f L stk h = some x → ∃ (nx : Nat) (stk' : List Value) (a : Nat) (x0 x' : ev_E), x = .inl (nx, L, stk', ev_put h a x') ∧ h.2.2 a = some x0 ∧
      ∀ (p : Program) (e : Env) (R : Room) (s : State) (m : MethodId) (args : Array Value) (below : List Frame) (meth : Method) (c : Code) (D : va_G) (cA : Nat → ClassId) (lo : Nat) (O : State → Prop), ev_ctx p l e R s m args below meth c cc nL ret nm own Ts D cl cA tyL lo O G d wd →
        ∀ (H : Heap) (locs : List Loc) (cells slots : Nat) (ls : Array Slot) (Q : State → Prop), ev_wd D cl cA lo h H → (∀ (H1 : Heap) (i : Nat), H1.size = H.size → (∀ q : Nat, q ≠ a → H1[q]? = H[q]?) → va_at D cl (a, ev_cv cA x') H1 → W p l e R s m args below meth c H1 (locs ++ [⟨a, i⟩]) cells slots Q (F0 m nx ls stk')) → W p l e R s m args below meth c H locs cells slots Q (F0 m pc ls stk)) :
    ev_Good l cl tyL G cc nL ret nm own Ts d wd pc (ev_fn f) := by
  refine ⟨fun L stk h => ⟨fun st' e1 => ?_, fun o e1 => ?_⟩, fun p e R s m args below meth c D cA lo O b0 oE X => ⟨fun L stk h g1 g2 Q st' e1 r1 r2 k => ?_, fun L stk h g1 g2 e1 => ?_⟩⟩
  · obtain ⟨nx, stk', a, x0, x', hx, -⟩ := hp L stk h _ e1
    cases hx
    exact ⟨Nat.le_refl _, Nat.le_refl _⟩
  · obtain ⟨nx, stk', a, x0, x', hx, -⟩ := hp L stk h _ e1
    cases hx
  · obtain ⟨nx, stk', a, x0, x', hx, hf, hw⟩ := hp L stk h _ e1
    cases hx
    intro H locs ls a1 a2 a3 a4 a5 a6
    have hlo := (a1.2 a x0 hf).1
    refine hw p e R s m args below meth c D cA lo O X H locs _ _ ls _ a1 (fun H1 i z oq hat => k H1 (locs ++ [⟨a, i⟩]) ls (a1.put hlo z oq hat) (fun q hq => ?_) (fun q hq => ?_) (by rw [z]; exact a4) a5 a6)
    · rcases List.mem_append.mp hq with g | g
      · exact a2 q g
      · rw [List.mem_singleton.mp g]; exact hlo
    · rw [oq q (by omega)]; exact a3 q hq
  · obtain ⟨nx, stk', a, x0, x', hx, -⟩ := hp L stk h _ e1
    cases hx
theorem ev_mk {f : ev_Fn} (hp : ∀ (L : ev_L) (stk : List Value) (h : ev_H) (x : ev_S ⊕ ev_O), f L stk h = some x → ∃ (nx : Nat) (stk' : List Value) (kk : Nat) (x' : ev_E), x = .inl (nx, L, stk', ev_new h kk x') ∧
      ∀ (p : Program) (e : Env) (R : Room) (s : State) (m : MethodId) (args : Array Value) (below : List Frame) (meth : Method) (c : Code) (D : va_G) (cA : Nat → ClassId) (lo : Nat) (O : State → Prop), ev_ctx p l e R s m args below meth c cc nL ret nm own Ts D cl cA tyL lo O G d wd →
        ∀ (H : Heap) (locs : List Loc) (cells slots : Nat) (ls : Array Slot) (Q : State → Prop), H.size = h.1 → cells + 1 ≤ R.cells → slots + kk ≤ R.slots → (∀ (H1 : Heap), H1.size = H.size + 1 → (∀ q : Nat, q < H.size → H1[q]? = H[q]?) → va_at D cl (H.size, ev_cv cA x') H1 → W p l e R s m args below meth c H1 locs (cells + 1) (slots + kk) Q (F0 m nx ls stk')) → W p l e R s m args below meth c H locs cells slots Q (F0 m pc ls stk)) :
    ev_Good l cl tyL G cc nL ret nm own Ts d wd pc (ev_fn f) := by
  refine ⟨fun L stk h => ⟨fun st' e1 => ?_, fun o e1 => ?_⟩, fun p e R s m args below meth c D cA lo O b0 oE X => ⟨fun L stk h g1 g2 Q st' e1 r1 r2 k => ?_, fun L stk h g1 g2 e1 => ?_⟩⟩
  · obtain ⟨nx, stk', kk, x', hx, -⟩ := hp L stk h _ e1
    cases hx
    exact ⟨Nat.le_succ _, Nat.le_add_right _ _⟩
  · obtain ⟨nx, stk', kk, x', hx, -⟩ := hp L stk h _ e1
    cases hx
  · obtain ⟨nx, stk', kk, x', hx, hw⟩ := hp L stk h _ e1
    cases hx
    have r1' : h.1 + 1 - b0.1 ≤ R.cells := r1
    have r2' : h.2.1 + kk - b0.2 ≤ R.slots := r2
    intro H locs ls a1 a2 a3 a4 a5 a6
    refine hw p e R s m args below meth c D cA lo O X H locs _ _ ls _ a1.1 (by show h.1 - b0.1 + 1 ≤ R.cells; omega) (by show h.2.1 - b0.2 + kk ≤ R.slots; omega) (fun H1 z oq hat => ?_)
    have hk := k H1 locs ls (a1.new (Nat.le_trans a5 a4) z oq hat) a2 (fun q hq => by rw [oq q (by omega)]; exact a3 q hq) (by rw [z]; omega) a5 a6
    exact W.cs (by show h.1 - b0.1 + 1 = h.1 + 1 - b0.1; omega) (by show h.2.1 - b0.2 + kk = h.2.1 + kk - b0.2; omega) hk
  · obtain ⟨nx, stk', kk, x', hx, -⟩ := hp L stk h _ e1
    cases hx
-- a field is written
def ev_putf (ci k : Nat) (ty : FieldType) (nx : Nat) : ev_Fn := fun L stk h => match stk with
  | v :: .ref a :: r => match h.2.2 a with
    | some (.inr (c, fs)) => if c = ci ∧ k < fs.length ∧ narrow ty v = v ∧ fits ty v = true then some (.inl (nx, L, r, ev_put h a (.inr (ci, fs.set k v)))) else none
    | _ => none
  | _ => none
theorem ok_putf {C ref : String} {T : u_T} {N ci k ix : Nat} {ty : FieldType} {ty0 : Nat → FieldType} (hc : cl[ci]? = some (C, T, N)) (hk : k < N) (hin : ∀ w ∈ u_ws C T N, w ∈ Ts) (hty : ∀ k, k < N → parseFieldDescriptor (T k).2.2.1 = some (ty0 k)) (hnm : ∀ a, a < N → ∀ b, b < N → a ≠ b → (T a).2.1 ≠ (T b).2.1)
    (hlink : Cond.fieldLink own ix ref (T k).2.1 (T k).2.2.1 ∈ Ts) (hsame : (T k).1 = ref ∨ Cond.sameField ref (T k).1 (T k).2.1 (T k).2.2.1 ∈ Ts) (hfin : (T k).2.2.2 = false) (hde : parseFieldDescriptor (T k).2.2.1 = some ty) (hd : decode cc pc = .ok (.putfield ix, 3)) : ev_Good l cl tyL G cc nL ret nm own Ts d wd pc (ev_fn (ev_putf ci k ty (pc + 3))) := by
  refine ev_wr fun L stk h x hx => ?_
  unfold ev_putf at hx
  split at hx
  · rename_i v a r
    split at hx
    · rename_i c0 fs hf
      split at hx
      · rename_i hg
        obtain ⟨hg0, hg1, hg2, hg3⟩ := hg
        subst hg0
        cases hx
        refine ⟨_, _, a, _, _, rfl, hf, fun p e R s m args below meth c D cA lo O X H locs cells slots ls Q hw kk => ?_⟩
        have hts := X.1.2.2.2.2.1
        have hK := X.2.1
        have hap := va_apart (own := own) hts hin ty0 hty hnm hK hc
        obtain ⟨r0, h1, cell, q1, q2, q3, q4⟩ := (hw.2 a _ hf).2
        have hr : r0 = (C, T, N) := Option.some.inj (h1.symm.trans hc)
        subst hr
        obtain ⟨hS, hfc, kC, hkC, hkind⟩ := hK.1 c0 _ hc
        obtain ⟨cf, kf, fi, f, hi, hsl⟩ := hS k hk
        have hlay := hts _ (hin _ (u_in_lay hk))
        unfold u_lay at hlay
        rw [if_neg (by rw [hfin]; decide)] at hlay
        have hst := (u_facts hfc hkC (u_lays hts hin hk) hi).1
        have h6 := u_store hfc hkC hkind hlay hi hde hg2 hg3
        have hff : s.fieldFound? ref (T k).2.1 (T k).2.2.1 = some (cf, kf, fi, f) := by
          rcases hsame with q | q
          · rw [← q]; exact hi
          · exact u_same (hts _ q) _ hi
        refine W.putK X.1.1 X.1.2.1 (f := f) ⟨X.1.2.2.2.1, hts _ hlink, ⟨_, _, _, hff⟩, hst⟩ (by rw [q2]; exact h6) q1 q3 (by rw [hsl]; exact k2_hasslot (q4 k hk)) rfl rfl hd fun H' e1 e2 e3 => ?_
        rw [hsl] at e1 ⊢
        exact kk H' _ e2 e3 ⟨_, hc, t_OB.to (V := updV (vp_V fs) k v) ⟨_, e1, q2, q3, t_set q4 hap hk v⟩ (fun j _ => vp_updV_set hg1 v j)⟩
      · cases hx
    · cases hx
  · cases hx
theorem ok_putF {C ref : String} {T : u_T} {N ci k ix : Nat} {ty : FieldType} {ty0 : Nat → FieldType} (hc : cl[ci]? = some (C, T, N)) (hk : k < N) (hin : ∀ w ∈ u_ws C T N, w ∈ Ts) (hty : ∀ k, k < N → parseFieldDescriptor (T k).2.2.1 = some (ty0 k)) (hnm : ∀ a, a < N → ∀ b, b < N → a ≠ b → (T a).2.1 ≠ (T b).2.1)
    (hlink : Cond.fieldLink own ix ref (T k).2.1 (T k).2.2.1 ∈ Ts) (hsame : (T k).1 = ref) (hfin : (T k).2.2.2 = true) (hini : nm = "<init>") (hdecl : (T k).1 = own) (hde : parseFieldDescriptor (T k).2.2.1 = some ty) (hd : decode cc pc = .ok (.putfield ix, 3)) : ev_Good l cl tyL G cc nL ret nm own Ts d wd pc (ev_fn (ev_putf ci k ty (pc + 3))) := by
  refine ev_wr fun L stk h x hx => ?_
  unfold ev_putf at hx
  split at hx
  · rename_i v a r
    split at hx
    · rename_i c0 fs hf
      split at hx
      · rename_i hg
        obtain ⟨hg0, hg1, hg2, hg3⟩ := hg
        subst hg0
        cases hx
        refine ⟨_, _, a, _, _, rfl, hf, fun p e R s m args below meth c D cA lo O X H locs cells slots ls Q hw kk => ?_⟩
        have hts := X.1.2.2.2.2.1
        have hown := X.1.2.2.2.1
        have hK := X.2.1
        have hap := va_apart (own := own) hts hin ty0 hty hnm hK hc
        obtain ⟨r0, h1, cell, q1, q2, q3, q4⟩ := (hw.2 a _ hf).2
        have hr : r0 = (C, T, N) := Option.some.inj (h1.symm.trans hc)
        subst hr
        obtain ⟨hS, hfc, kC, hkC, hkind⟩ := hK.1 c0 _ hc
        obtain ⟨cf, kf, fi, f, hi, hsl⟩ := hS k hk
        have hlay := hts _ (hin _ (u_in_lay hk))
        unfold u_lay at hlay
        rw [if_pos hfin] at hlay
        have hst := (u_facts hfc hkC (u_lays hts hin hk) hi).1
        have hcf : m.cls = cf := by
          obtain ⟨_, _, c', _, _, _, -, -, hf', -, -, -, hown2, -⟩ := Cond.laysFinal_spec hlay
          have e1 : c' = cf := by have := hi.symm.trans hf'; simp at this; exact this.1.symm
          rw [hdecl] at hown2
          rw [← e1]; exact Option.some.inj (hown.symm.trans hown2)
        have h6 := u_fits hfc hkC hkind (Or.inr hlay) hi hde hg2 hg3
        refine W.putFinK X.1.1 X.1.2.1 hown (hts _ hlink) (show s.fieldFound? ref _ _ = some _ by rw [← hsame]; exact hi) hst hcf (X.1.2.2.2.2.2.2.2.trans hini) (by rw [q2]; exact h6) q1 q3 (by rw [hsl]; exact k2_hasslot (q4 k hk)) rfl rfl hd fun H' e1 e2 e3 => ?_
        rw [hsl] at e1 ⊢
        exact kk H' _ e2 e3 ⟨_, hc, t_OB.to (V := updV (vp_V fs) k v) ⟨_, e1, q2, q3, t_set q4 hap hk v⟩ (fun j _ => vp_updV_set hg1 v j)⟩
      · cases hx
    · cases hx
  · cases hx
-- a new object
def ev_newo (ci N : Nat) (fs : List Value) (nx : Nat) : ev_Fn := fun L stk h => some (.inl (nx, L, .ref h.1 :: stk, ev_new h N (.inr (ci, fs))))
theorem ok_newo {C : String} {T : u_T} {N ci ix : Nat} {fs : List Value} {ty : Nat → FieldType} (hc : cl[ci]? = some (C, T, N)) (hin : ∀ w ∈ u_ws C T N, w ∈ Ts) (hty : ∀ k, k < N → parseFieldDescriptor (T k).2.2.1 = some (ty k)) (hfs : ∀ j, j < N → defaultValue (ty j) = vp_V fs j)
    (hcl : Cond.classLink own ix C ∈ Ts) (hinst : Cond.instantiable C N ∈ Ts) (hini : Cond.initialized C ∈ Ts) (hd : decode cc pc = .ok (.new ix, 3)) : ev_Good l cl tyL G cc nL ret nm own Ts d wd pc (ev_fn (ev_newo ci N fs (pc + 3))) := by
  refine ev_mk fun L stk h x hx => ?_
  unfold ev_newo at hx
  cases hx
  refine ⟨_, _, N, _, rfl, fun p e R s m args below meth c D cA lo O X H locs cells slots ls Q hz r1 r2 kk => ?_⟩
  have hts := X.1.2.2.2.2.1
  have hKn := X.2.1.1 ci _ hc
  refine W.newcK X.1.1 X.1.2.1 X.1.2.2.2.1 (hts _ hcl) (hts _ hinst) (hts _ hini) rfl hd r1 r2 hKn.2.1 hz fun H1 kC hkC e1 z1 o1 => ?_
  rw [← hz] at e1 z1 o1
  exact kk H1 z1 o1 ⟨_, hc, (u_born ty hts hin hKn hkC e1 hty).to hfs⟩
-- arrays of ints and of references
def ev_iald (nx : Nat) : ev_Fn := fun L stk h => match stk with
  | .int i :: .ref a :: r => match h.2.2 a with
    | some (.inl (t, n, .inl f)) => if t = 0 ∧ ¬ (i < 0 ∨ n ≤ i.toNatClampNeg) then some (.inl (nx, L, .int (f i.toNatClampNeg) :: r, h)) else none
    | _ => none
  | _ => none
theorem ok_iald (ht : tyL[0]? = some .int) (hd : decode cc pc = .ok (.iaload, 1)) : ev_Good l cl tyL G cc nL ret nm own Ts d wd pc (ev_fn (ev_iald (pc + 1))) := by
  refine ev_pure fun L stk h x hx => ?_
  unfold ev_iald at hx
  split at hx
  · rename_i i a r
    split at hx
    · rename_i t n0 f hf
      split at hx
      · rename_i hg
        obtain ⟨hg0, hg1⟩ := hg
        subst hg0
        cases hx
        exact ⟨_, _, rfl, fun p e R s m args below meth c D cA lo O X H locs cells slots ls Q hw ho hl kk => va_iald X.1.1 X.1.2.1 X.2.1 (ev_P1 (hw.2 a _ hf).2) 0 0 rfl (ev_ty_get ht) hg1 hd kk⟩
      · cases hx
    · cases hx
  · cases hx
def ev_iast (nx : Nat) : ev_Fn := fun L stk h => match stk with
  | .int x :: .int i :: .ref a :: r => match h.2.2 a with
    | some (.inl (t, n, .inl f)) => if t = 0 ∧ ¬ (i < 0 ∨ n ≤ i.toNatClampNeg) then some (.inl (nx, L, r, ev_put h a (.inl (0, n, .inl (va_up f i.toNatClampNeg x))))) else none
    | _ => none
  | _ => none
theorem ok_iast (ht : tyL[0]? = some .int) (hd : decode cc pc = .ok (.iastore, 1)) : ev_Good l cl tyL G cc nL ret nm own Ts d wd pc (ev_fn (ev_iast (pc + 1))) := by
  refine ev_wr fun L stk h x hx => ?_
  unfold ev_iast at hx
  split at hx
  · rename_i x0 i a r
    split at hx
    · rename_i t n0 f hf
      split at hx
      · rename_i hg
        obtain ⟨hg0, hg1⟩ := hg
        subst hg0
        cases hx
        refine ⟨_, _, a, _, _, rfl, hf, fun p e R s m args below meth c D cA lo O X H locs cells slots ls Q hw kk => ?_⟩
        refine W.iast X.1.1 X.1.2.1 (hw.2 a _ hf).2 ((X.2.1.2 0 _ (ev_ty_get ht)).1 n0 (fun j => .int (f j))) (fun h => by cases h) (by show ¬ (i < 0 ∨ (arrV _ _ _).slots.size ≤ _); rw [arrV_size]; exact hg1) rfl rfl hd fun H1 e z oq => ?_
        refine kk H1 _ z oq ?_
        show H1[a]? = some (vp_cell _ _)
        rw [e]
        show some ((vp_cell _ _).setSlot _ _) = _
        rw [vp_cell_i, vp_cell_i, arrV_store]
        congr 2
        funext q
        by_cases hq : q = i.toNatClampNeg
        · subst hq
          simp [updV, va_up]
        · simp [updV, va_up, hq]
      · cases hx
    · cases hx
  · cases hx
-- the class's number and its own check: an array of references is of kind t, its component tyL t
def ev_aaldT (t nx : Nat) : ev_Fn := fun L stk h => match stk with
  | .int i :: .ref a :: r => match h.2.2 a with
    | some (.inl (t', n, .inr (.inr (.inr (.inr f))))) => if t' = t ∧ ¬ (i < 0 ∨ n ≤ i.toNatClampNeg) then some (.inl (nx, L, va_rf (f i.toNatClampNeg) :: r, h)) else none
    | _ => none
  | _ => none
theorem ok_aaldT {t : Nat} {C : String} (ht : tyL[t]? = some (.object C)) (hd : decode cc pc = .ok (.aaload, 1)) : ev_Good l cl tyL G cc nL ret nm own Ts d wd pc (ev_fn (ev_aaldT t (pc + 1))) := by
  refine ev_pure fun L stk h x hx => ?_
  unfold ev_aaldT at hx
  split at hx
  · rename_i i a r
    split at hx
    · rename_i t' n0 f hf
      split at hx
      · rename_i hg
        obtain ⟨hg0, hg1⟩ := hg
        subst hg0
        cases hx
        exact ⟨_, _, rfl, fun p e R s m args below meth c D cA lo O X H locs cells slots ls Q hw ho hl kk => va_aldq X.1.1 X.1.2.1 X.2.1 (ev_P1 (hw.2 a _ hf).2) 0 t' rfl (ev_ty_get ht) hg1 hd kk⟩
      · cases hx
    · cases hx
  · cases hx
end WOPS
