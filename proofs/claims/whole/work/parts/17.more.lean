/-! More steps: comparing references, lengths, arrays of references, casts, Object's constructor, switches, statics, arraycopy. -/
def ev_rq (v : Value) : Option (Option Nat) := match v with
  | .ref a => some (some a)
  | .null => some none
  | _ => none
theorem ev_rq_rf {v : Value} {r : Option Nat} (h : ev_rq v = some r) : v = va_rf r := by
  cases v <;> simp [ev_rq] at h <;> subst h <;> rfl
section MOPS
variable {l : Launch} {cl : List vw_C} {tyL : List FieldType} {G : Nat → (State → Prop) → Prop} {cc : ByteArray} {nL : Nat} {ret : Option FieldType} {nm own : String} {Ts : List Cond} {d wd pc : Nat}
def ev_acmpeq (tg nx : Nat) : ev_Fn := fun L stk h => match stk with
  | y :: x :: r => match ev_rq x, ev_rq y with
    | some rx, some ry => if rx = ry then some (.inl (tg, L, r, h)) else some (.inl (nx, L, r, h))
    | _, _ => none
  | _ => none
theorem ok_acmpeq {off : Int} {tgt : Nat} (hd : decode cc pc = .ok (.if_acmp .eq off, 3)) (ht : (pc : Int) + off = (tgt : Int)) : ev_Good l cl tyL G cc nL ret nm own Ts d wd pc (ev_fn (ev_acmpeq tgt (pc + 3))) := by
  refine ev_pure fun L stk h x hx => ?_
  unfold ev_acmpeq at hx
  split at hx
  · split at hx
    · rename_i rx ry e1 e2
      obtain rfl := ev_rq_rf e1
      obtain rfl := ev_rq_rf e2
      split at hx
      · rename_i hg; cases hx; exact ⟨_, _, rfl, fun p e R s m args below meth c D cA lo O X H locs cells slots ls Q hw ho hl k => lv_acmp_eq X.1.1 X.1.2.1 hd ht (fun _ => k) (fun q => absurd hg q)⟩
      · rename_i hg; cases hx; exact ⟨_, _, rfl, fun p e R s m args below meth c D cA lo O X H locs cells slots ls Q hw ho hl k => lv_acmp_eq X.1.1 X.1.2.1 hd ht (fun q => absurd q hg) (fun _ => k)⟩
    · cases hx
  · cases hx
def ev_acmpne (tg nx : Nat) : ev_Fn := fun L stk h => match stk with
  | y :: x :: r => match ev_rq x, ev_rq y with
    | some rx, some ry => if ¬ rx = ry then some (.inl (tg, L, r, h)) else some (.inl (nx, L, r, h))
    | _, _ => none
  | _ => none
theorem ok_acmpne {off : Int} {tgt : Nat} (hd : decode cc pc = .ok (.if_acmp .ne off, 3)) (ht : (pc : Int) + off = (tgt : Int)) : ev_Good l cl tyL G cc nL ret nm own Ts d wd pc (ev_fn (ev_acmpne tgt (pc + 3))) := by
  refine ev_pure fun L stk h x hx => ?_
  unfold ev_acmpne at hx
  split at hx
  · split at hx
    · rename_i rx ry e1 e2
      obtain rfl := ev_rq_rf e1
      obtain rfl := ev_rq_rf e2
      split at hx
      · rename_i hg; cases hx; exact ⟨_, _, rfl, fun p e R s m args below meth c D cA lo O X H locs cells slots ls Q hw ho hl k => lv_acmp_ne X.1.1 X.1.2.1 hd ht (fun _ => k) (fun q => absurd q hg)⟩
      · rename_i hg; cases hx; exact ⟨_, _, rfl, fun p e R s m args below meth c D cA lo O X H locs cells slots ls Q hw ho hl k => lv_acmp_ne X.1.1 X.1.2.1 hd ht (fun q => absurd q hg) (fun _ => k)⟩
    · cases hx
  · cases hx
-- an array's length; K kinds of arrays are known
def ev_alen (K nx : Nat) : ev_Fn := fun L stk h => match stk with
  | .ref a :: r => match h.2.2 a with
    | some (.inl (t, x)) => if t < K then some (.inl (nx, L, .int (Int32.ofNat x.1) :: r, h)) else none
    | _ => none
  | _ => none
theorem ok_alen {K : Nat} (hK : tyL.length = K) (hd : decode cc pc = .ok (.arraylength, 1)) : ev_Good l cl tyL G cc nL ret nm own Ts d wd pc (ev_fn (ev_alen K (pc + 1))) := by
  refine ev_pure fun L stk h x hx => ?_
  unfold ev_alen at hx
  split at hx
  · rename_i a r
    split at hx
    · rename_i t x0 hf
      split at hx
      · rename_i hg
        cases hx
        obtain ⟨ty, hty⟩ : ∃ ty, tyL[t]? = some ty := ⟨_, List.getElem?_eq_getElem (by omega)⟩
        exact ⟨_, _, rfl, fun p e R s m args below meth c D cA lo O X H locs cells slots ls Q hw ho hl kk => va_alen X.1.1 X.1.2.1 X.2.1 (ev_P1 (hw.2 a _ hf).2) 0 t rfl (ev_ty_get hty) rfl hd kk⟩
      · cases hx
    · cases hx
  · cases hx
-- storing a reference: of a class that may lie there
def ev_aast (t : Nat) (cs : List Nat) (nx : Nat) : ev_Fn := fun L stk h => match stk with
  | .ref v :: .int i :: .ref a :: r => match h.2.2 a, h.2.2 v with
    | some (.inl (t', n, .inr (.inr (.inr (.inr f))))), some (.inr (ci, _)) => if t' = t ∧ ¬ (i < 0 ∨ n ≤ i.toNatClampNeg) ∧ cs.contains ci = true then some (.inl (nx, L, r, ev_put h a (.inl (t, n, .inr (.inr (.inr (.inr (va_up f i.toNatClampNeg (some v)))))))) ) else none
    | _, _ => none
  | .null :: .int i :: .ref a :: r => match h.2.2 a with
    | some (.inl (t', n, .inr (.inr (.inr (.inr f))))) => if t' = t ∧ ¬ (i < 0 ∨ n ≤ i.toNatClampNeg) then some (.inl (nx, L, r, ev_put h a (.inl (t, n, .inr (.inr (.inr (.inr (va_up f i.toNatClampNeg none)))))))) else none
    | _ => none
  | _ => none
theorem ok_aast {t : Nat} {E : String} {cs : List Nat} (ht : tyL[t]? = some (.object E)) (hcs : ∀ ci ∈ cs, ∃ (C : String) (T : u_T) (N : Nat), cl[ci]? = some (C, T, N) ∧ (C = E ∨ ∀ (lo : Nat) (O : State → Prop) (s : State), G lo O → O s → va_Nw (.castable C E) s)) (hd : decode cc pc = .ok (.aastore, 1)) : ev_Good l cl tyL G cc nL ret nm own Ts d wd pc (ev_fn (ev_aast t cs (pc + 1))) := by
  refine ev_wr fun L stk h x hx => ?_
  unfold ev_aast at hx
  split at hx
  · rename_i v i a r
    split at hx
    · rename_i t' n0 f ci fs hf hv
      split at hx
      · rename_i hg
        obtain ⟨hg0, hg1, hg2⟩ := hg
        subst hg0
        cases hx
        obtain ⟨C, T, N, hc, hC⟩ := hcs ci (by simpa using hg2)
        refine ⟨_, _, a, _, _, rfl, hf, fun p e R s m args below meth c D cA lo O X H locs cells slots ls Q hw kk => ?_⟩
        have hlt : i.toNatClampNeg < n0 := Nat.not_le.mp fun q => hg1 (Or.inr q)
        have h0 : ¬ i < 0 := fun q => hg1 (Or.inl q)
        obtain ⟨r0, hr0, cellV, g1, g2, g3, -⟩ := (hw.2 v _ hv).2
        have hcls := (X.2.1.1 ci _ hc).2
        obtain ⟨kA, comp, k1, k2, k3, -⟩ := (X.2.1.2 t' _ (ev_ty_get ht)).2
        obtain ⟨kE, hkE, -⟩ := Vm.findClass_spec k3
        obtain ⟨kC, hkC, -⟩ := hcls.2
        have hasg : s.vm.assignable (D.1 ci) comp = true := by
          rcases hC with rfl | hC
          · have hcomp : comp = D.1 ci := Option.some.inj (k3.symm.trans hcls.1)
            rw [hcomp]
            exact va_assign hcls
          · obtain ⟨c0, t0, f1, f2, f3⟩ := Cond.castable_spec (va_Nw.use (A := args) rfl (hC lo O s X.2.2.2.2.1 X.2.2.1))
            have e1 : c0 = D.1 ci := Option.some.inj (f1.symm.trans hcls.1)
            have e2 : t0 = comp := Option.some.inj (f2.symm.trans k3)
            rw [← e1, ← e2]
            exact f3
        refine W.aast X.1.1 X.1.2.1 (hw.2 a _ hf).2 (fun q h => by cases h) (fun h => by cases h) k1 k2 rfl hkE ⟨h0, by show _ < (arrV _ _ _).slots.size; rw [arrV_size]; exact hlt⟩ g1 (fun q h => by rw [g3] at h; cases h) (by rw [g2]; exact hkC) (by rw [g2]; exact hasg) rfl rfl hd fun H1 e z oq => ?_
        refine kk H1 _ z oq ?_
        show H1[a]? = some (vp_cell _ _)
        rw [e]
        show some ((vp_cell _ _).setSlot _ _) = _
        rw [vp_cell_q, vp_cell_q, arrV_store]
        congr 2
        funext q
        by_cases hq : q = i.toNatClampNeg
        · subst hq
          simp [updV, va_up, va_rf]
        · simp [updV, va_up, hq]
      · cases hx
    · cases hx
  · rename_i i a r
    split at hx
    · rename_i t' n0 f hf
      split at hx
      · rename_i hg
        obtain ⟨hg0, hg1⟩ := hg
        subst hg0
        cases hx
        refine ⟨_, _, a, _, _, rfl, hf, fun p e R s m args below meth c D cA lo O X H locs cells slots ls Q hw kk => ?_⟩
        refine va_WaastN (C := E) X.1.1 X.1.2.1 (hw.2 a _ hf).2 ((X.2.1.2 t' _ (ev_ty_get ht)).1 n0 (fun j => va_rf (f j))) (fun h => by cases h) (by show ¬ (i < 0 ∨ (arrV _ _ _).slots.size ≤ _); rw [arrV_size]; exact hg1) rfl rfl hd fun H1 e z oq => ?_
        refine kk H1 _ z oq ?_
        show H1[a]? = some (vp_cell _ _)
        rw [e]
        show some ((vp_cell _ _).setSlot _ _) = _
        rw [vp_cell_q, vp_cell_q, arrV_store]
        congr 2
        funext q
        by_cases hq : q = i.toNatClampNeg
        · subst hq
          simp [updV, va_up, va_rf]
        · simp [updV, va_up, hq]
      · cases hx
    · cases hx
  · cases hx
-- a new array of ints, of references
def ev_newi (nx : Nat) : ev_Fn := fun L stk h => match stk with
  | .int n :: r => if ¬ n < 0 ∧ n.toNatClampNeg * 4 ≤ 536870912 then some (.inl (nx, L, .ref h.1 :: r, ev_new h n.toNatClampNeg (.inl (0, n.toNatClampNeg, .inl (fun _ => 0))))) else none
  | _ => none
theorem ok_newi (ht : tyL[0]? = some .int) (hw : Cond.arrayClass (newarray.typeOf .int) ∈ Ts) (hd : decode cc pc = .ok (.newarray .int, 2)) : ev_Good l cl tyL G cc nL ret nm own Ts d wd pc (ev_fn (ev_newi (pc + 2))) := by
  refine ev_mk fun L stk h x hx => ?_
  unfold ev_newi at hx
  split at hx
  · rename_i n0 r
    split at hx
    · rename_i hg
      obtain ⟨hg0, hg1⟩ := hg
      cases hx
      refine ⟨_, _, n0.toNatClampNeg, _, rfl, fun p e R s m args below meth c D cA lo O X H locs cells slots ls Q hz r1 r2 kk => ?_⟩
      refine va_newaK X.1.1 X.1.2.1 (X.1.2.2.2.2.1 _ hw) rfl hd rfl hg0 rfl hg1 r1 r2 hz fun H1 cI e1 z1 o1 hAr hNm => ?_
      have hc : cI = cA 0 := Option.some.inj (hNm.symm.trans (X.2.1.2 0 _ (ev_ty_get ht)).2)
      subst hc
      rw [← hz] at e1 z1 o1
      exact kk H1 z1 o1 e1
    · cases hx
  · cases hx
def ev_newq (t nx : Nat) : ev_Fn := fun L stk h => match stk with
  | .int n :: r => if ¬ n < 0 ∧ n.toNatClampNeg * 4 ≤ 536870912 then some (.inl (nx, L, .ref h.1 :: r, ev_new h n.toNatClampNeg (.inl (t, n.toNatClampNeg, .inr (.inr (.inr (.inr (fun _ => none)))))))) else none
  | _ => none
theorem ok_newq {t ix : Nat} {C : String} (ht : tyL[t]? = some (.object C)) (hcl : Cond.classLink own ix C ∈ Ts) (hov : ∀ (lo : Nat) (O : State → Prop) (s : State), G lo O → O s → va_AO C s) (hd : decode cc pc = .ok (.anewarray ix, 3)) : ev_Good l cl tyL G cc nL ret nm own Ts d wd pc (ev_fn (ev_newq t (pc + 3))) := by
  refine ev_mk fun L stk h x hx => ?_
  unfold ev_newq at hx
  split at hx
  · rename_i n0 r
    split at hx
    · rename_i hg
      obtain ⟨hg0, hg1⟩ := hg
      cases hx
      refine ⟨_, _, n0.toNatClampNeg, _, rfl, fun p e R s m args below meth c D cA lo O X H locs cells slots ls Q hz r1 r2 kk => ?_⟩
      refine W.anew X.1.1 X.1.2.1 X.1.2.2.2.1 (X.1.2.2.2.2.1 _ hcl) (va_AO.use (hov lo O s X.2.2.2.2.1 X.2.2.1)) rfl hd rfl hg0 hg1 r1 r2 fun cI kA comp f1 f2 f3 f4 => ?_
      obtain ⟨kA', comp', k1, k2, k3, k4⟩ := (X.2.1.2 t _ (ev_ty_get ht)).2
      have hc : cI = cA t := Option.some.inj (f1.symm.trans k4)
      subst hc
      generalize hH1 : H.push ({ cls := cA t, slots := Array.replicate n0.toNatClampNeg .null, vm := .none } : Cell) = H1
      have z1 : H1.size = H.size + 1 := by rw [← hH1, Array.size_push]
      have e1 : H1[H.size]? = some (arrV (cA t) n0.toNatClampNeg (fun _ => .null)) := by rw [← hH1, Array.getElem?_push_size, ← arrV_new]
      have o1 : ∀ q : Nat, q < H.size → H1[q]? = H[q]? := fun q hq => by rw [← hH1, Array.getElem?_push, if_neg (Nat.ne_of_lt hq)]
      have := kk H1 z1 o1 e1
      rw [← hz] at this
      exact this
    · cases hx
  · cases hx
-- a cast to the object's own class
def ev_castS (ci nx : Nat) : ev_Fn := fun L stk h => match stk with
  | .ref a :: r => match h.2.2 a with
    | some (.inr (c, _)) => if c = ci then some (.inl (nx, L, .ref a :: r, h)) else none
    | _ => none
  | .null :: r => some (.inl (nx, L, .null :: r, h))
  | _ => none
theorem ok_castS {C : String} {T : u_T} {N ci ix : Nat} (hc : cl[ci]? = some (C, T, N)) (hcl : Cond.classLink own ix C ∈ Ts) (hd : decode cc pc = .ok (.checkcast ix, 3)) : ev_Good l cl tyL G cc nL ret nm own Ts d wd pc (ev_fn (ev_castS ci (pc + 3))) := by
  refine ev_pure fun L stk h x hx => ?_
  unfold ev_castS at hx
  split at hx
  · rename_i a r
    split at hx
    · rename_i c0 fs hf
      split at hx
      · rename_i hg
        subst hg
        cases hx
        exact ⟨_, _, rfl, fun p e R s m args below meth c D cA lo O X H locs cells slots ls Q hw ho hl kk => va_castS X.1.1 X.1.2.1 X.1.2.2.2.1 (X.1.2.2.2.2.1 _ hcl) (X.2.1.1 c0 _ hc).2 (va_recv (q0 := 0) X.2.1 (ev_P1 (hw.2 a _ hf).2) hc rfl) hd kk⟩
      · cases hx
    · cases hx
  · cases hx; exact ⟨_, _, rfl, fun p e R s m args below meth c D cA lo O X H locs cells slots ls Q hw ho hl kk => lv_castN X.1.1 X.1.2.1 hd kk⟩
  · cases hx
-- Object's constructor
def ev_obji (nx : Nat) : ev_Fn := fun L stk h => match stk with
  | .ref _ :: r => if (r.map fun v => v.category).sum ≤ 8 then some (.inl (nx, L, r, h)) else none
  | _ => none
theorem ok_obji {ix : Nat} (hd0 : 1 ≤ d) (hw0 : 20 ≤ wd) (w1 : Cond.methodLink own ix objectInit ∈ Ts) (w2 : Cond.instanceMethod objectInit ∈ Ts) (w3 : Cond.code objectInit ⟨#[0xb1]⟩ 1 none ∈ Ts) (hd : decode cc pc = .ok (.invokespecial ix, 3)) : ev_Good l cl tyL G cc nL ret nm own Ts d wd pc (ev_fn (ev_obji (pc + 3))) := by
  refine ev_pure fun L stk h x hx => ?_
  unfold ev_obji at hx
  split at hx
  · rename_i a r
    split at hx
    · rename_i hg
      cases hx
      refine ⟨_, _, rfl, fun p e R s m args below meth c D cA lo O X H locs cells slots ls Q hw ho hl kk => ?_⟩
      have hts := X.1.2.2.2.2.1
      refine W.objInit X.1.1 X.1.2.1 X.1.2.2.2.1 (hts _ w1) (hts _ w2) (hts _ w3) rfl (by rw [X.1.2.2.1]; exact hl.1) rfl hd (Nat.le_trans hd0 X.2.2.2.2.2.1) (Nat.le_trans (show 2 * 0 + (r.map fun v => v.category).sum + 12 ≤ wd by omega) X.2.2.2.2.2.2) ?_
      exact W.eq (g2 := F0 m (pc + 3) ls r) rfl kk
    · cases hx
  · cases hx
-- switches
def ev_tsw (pc : Nat) (dflt lo hi : Int) (offs : Array Int) : ev_Fn := fun L stk h => match stk with
  | .int x :: r => if x.toInt < lo ∨ hi < x.toInt then (if 0 ≤ (pc : Int) + dflt then some (.inl (((pc : Int) + dflt).toNat, L, r, h)) else none) else match offs[(x.toInt - lo).toNat]? with
    | some off => if 0 ≤ (pc : Int) + off then some (.inl (((pc : Int) + off).toNat, L, r, h)) else none
    | none => none
  | _ => none
theorem ok_tsw {dflt lo hi : Int} {offs : Array Int} {len : Nat} (hd : decode cc pc = .ok (.tableswitch dflt lo hi offs, len)) : ev_Good l cl tyL G cc nL ret nm own Ts d wd pc (ev_fn (ev_tsw pc dflt lo hi offs)) := by
  refine ev_pure fun L stk h x hx => ?_
  unfold ev_tsw at hx
  split at hx
  · split at hx
    · rename_i hg
      split at hx
      · rename_i h0; cases hx; exact ⟨_, _, rfl, fun p e R s m args below meth c D cA lo O X H locs cells slots ls Q hw ho hl kk => lv_tableOut X.1.1 X.1.2.1 hd hg (Int.toNat_of_nonneg h0).symm kk⟩
      · cases hx
    · rename_i hg
      split at hx
      · rename_i off ho2
        split at hx
        · rename_i h0; cases hx; exact ⟨_, _, rfl, fun p e R s m args below meth c D cA lo O X H locs cells slots ls Q hw ho hl kk => lv_tableIn X.1.1 X.1.2.1 hd (fun q => hg (Or.inl q)) (fun q => hg (Or.inr q)) ho2 (Int.toNat_of_nonneg h0).symm kk⟩
        · cases hx
      · cases hx
  · cases hx
def ev_lsw (pc : Nat) (dflt : Int) (ps : Array (Int × Int)) : ev_Fn := fun L stk h => match stk with
  | .int x :: r => if 0 ≤ (pc : Int) + Op.lookupswitch.offset ps.toList dflt x.toInt then some (.inl (((pc : Int) + Op.lookupswitch.offset ps.toList dflt x.toInt).toNat, L, r, h)) else none
  | _ => none
theorem ok_lsw {dflt : Int} {ps : Array (Int × Int)} {len : Nat} (hp : (ps.toList.zip (ps.toList.drop 1)).all (fun (a, next) => a.1 < next.1) = true) (hd : decode cc pc = .ok (.lookupswitch dflt ps, len)) : ev_Good l cl tyL G cc nL ret nm own Ts d wd pc (ev_fn (ev_lsw pc dflt ps)) := by
  refine ev_pure fun L stk h x hx => ?_
  unfold ev_lsw at hx
  split at hx
  · split at hx
    · rename_i h0; cases hx; exact ⟨_, _, rfl, fun p e R s m args below meth c D cA lo O X H locs cells slots ls Q hw ho hl kk => lv_lookup X.1.1 X.1.2.1 hd hp rfl (Int.toNat_of_nonneg h0).symm kk⟩
    · cases hx
  · cases hx
end MOPS
