/-! Calls: what the callee's contract says is what the step does. -/
def ev_call (F : ev_F) (na nx : Nat) : ev_Op := fun L stk h x => ∃ o : ev_O, na ≤ stk.length ∧ ((stk.drop na).map fun v => v.category).sum ≤ 8 ∧ F (stk.take na).reverse h o ∧ x = .inl (nx, L, o.1.toList ++ stk.drop na, o.2)
def ev_callR (ci : Nat) (F : ev_F) (na nx : Nat) : ev_Op := fun L stk h x => ∃ (o : ev_O) (b : Nat) (As : List Value) (fs : List Value), na ≤ stk.length ∧ ((stk.drop na).map fun v => v.category).sum ≤ 8 ∧ (stk.take na).reverse = .ref b :: As ∧ h.2.2 b = some (.inr (ci, fs)) ∧ F (stk.take na).reverse h o ∧ x = .inl (nx, L, o.1.toList ++ stk.drop na, o.2)
section COPS
variable {l : Launch} {cl : List vw_C} {tyL : List FieldType} {G : Nat → (State → Prop) → Prop} {cc : ByteArray} {nL : Nat} {ret : Option FieldType} {nm own : String} {Ts : List Cond} {d wd pc : Nat}
theorem ev_callW {p : Program} {e : Env} {R : Room} {s : State} {m : MethodId} {args : Array Value} {below : List Frame} {meth : Method} {c : Code} {H : Heap} {locs : List Loc} {cells slots mc ms : Nat} {Q : State → Prop} {D : va_G} {cA : Nat → ClassId} {lo : Nat} {O : State → Prop} {ls : Array Slot} {st0 rest : List Value} {r : Option Value} {h' : ev_H} {a : Array Value}
    (hr : va_Run p l e R s m args below meth c H locs cells slots mc ms (F0 m pc ls st0) rest (ev_Qc D cl cA tyL lo O r h' a) (fun q => lo ≤ q))
    (kk : ∀ (t : State) (L : List Loc), (∀ q ∈ L, lo ≤ q.base) → ev_U D cl cA tyL lo O h' t → H.size ≤ t.heap.size → (∀ q, q < lo → t.heap[q]? = H[q]?) → W p l e R s m args below meth c t.heap (locs ++ L) (cells + mc) (slots + ms) Q (F0 m (pc + 3) ls (r.toList ++ rest))) : W p l e R s m args below meth c H locs cells slots Q (F0 m pc ls st0) := by
  intro T hT X
  obtain ⟨v, st₀, t, T', L, h0, X', hL, e1, e2, hq, st⟩ := hr T hT X
  obtain ⟨hv, hU, hz, hk⟩ := hq
  cases hv
  rw [h0] at hz hk
  obtain ⟨t2, a1, b1⟩ := kk t L hL hU hz hk T' e1 X'
  exact ⟨t2, st t2 a1, b1⟩
theorem ev_blind {D : va_G} {cA : Nat → ClassId} {lo : Nat} {O : State → Prop} {h : ev_H} {as : List Value} (hSt : ev_St lo O) : FrameBlind (va_Pc as (ev_U D cl cA tyL lo O h)) := by
  intro a U g mk q
  obtain ⟨q0, q1, q2, q3, q4⟩ := q
  exact ⟨q0, q1, va_K.moved (u := U) (U := U.calling g mk a) (Vm.Alike.refl U.vm) q2, hSt U (U.calling g mk a) (Or.inr rfl) (Nat.le_refl _) (fun _ _ => rfl) q3, q4⟩

def ev_callI (F : ev_F) (na nx : Nat) : ev_Op := fun L stk h x => ∃ (o : ev_O) (b : Nat) (As : List Value), na ≤ stk.length ∧ ((stk.drop na).map fun v => v.category).sum ≤ 8 ∧ (stk.take na).reverse = .ref b :: As ∧ F (stk.take na).reverse h o ∧ x = .inl (nx, L, o.1.toList ++ stk.drop na, o.2)
theorem ok_callS {y : MethodName} {bytes : ByteArray} {maxL ix nn d' wd' : Nat} {rt : Option FieldType} {ws : List Cond} {F : ev_F} (hM : ev_Met l cl tyL G y ws d' wd' F)
    (hcw : ∀ (R : Room) (s : State) (args : Array Value) (O : State → Prop) (lo mc ms : Nat), (∀ w ∈ Ts, w.before args s = true) → O s → G lo O → d ≤ R.frames → wd ≤ R.locals → CallB R s args own ix y bytes maxL rt ws (ev_rm d' wd' mc ms) mc ms nn ∧ (Cond.static y).before args s = true) (hd : decode cc pc = .ok (.invokestatic ix, 3)) : ev_Good l cl tyL G cc nL ret nm own Ts d wd pc (ev_call F nn (pc + 3)) := by
  refine ⟨fun L stk h => ⟨fun st' e1 => ?_, fun o e1 => ?_⟩, fun p e R s m args below meth c D cA lo O b0 oE X => ⟨fun L stk h g1 g2 Q st' e1 r1 r2 k => ?_, fun L stk h g1 g2 e1 => ?_⟩⟩
  · obtain ⟨o, hn, hs, hF, hx⟩ := e1
    cases hx
    exact ⟨(hM _ _ o.1 o.2 hF).1, (hM _ _ o.1 o.2 hF).2.1⟩
  · obtain ⟨o2, hn, hs, hF, hx⟩ := e1
    cases hx
  · obtain ⟨o, hn, hs, hF, hx⟩ := e1
    cases hx
    obtain ⟨m1, m2, hm⟩ := hM _ _ o.1 o.2 hF
    have hm := hm D cA lo O X.2.2.2.1 X.2.2.2.2.1
    intro H locs ls a1 a2 a3 a4 a5 a6
    have r1' : o.2.1 - b0.1 ≤ R.cells := r1
    have r2' : o.2.2.1 - b0.2 ≤ R.slots := r2
    have hlen : ((stk.take nn).reverse).length = nn := by rw [List.length_reverse, List.length_take]; omega
    refine ev_callW (va_runS (As := (stk.take nn).reverse) (rest := stk.drop nn) ⟨X.1.1, X.1.2.1, X.1.2.2.1, X.1.2.2.2.1, X.1.2.2.2.2.1⟩ hm (hcw R s args O lo _ _ X.1.2.2.2.2.1 X.2.2.1 X.2.2.2.2.1 X.2.2.2.2.2.1 X.2.2.2.2.2.2) ⟨ev_blind X.2.2.2.1, fun U hU hW => ⟨rfl, by rw [hU]; exact a1, va_K.moved hW.alike X.2.1, X.2.2.2.1 s U (Or.inl hW) (by rw [hU]; exact a4) (fun q hq => by rw [hU]; exact a3 q hq) X.2.2.1, by rw [hU]; exact Nat.le_trans a5 a4⟩⟩ rfl hlen a6.1 (show stk = ((stk.take nn).reverse).reverse ++ stk.drop nn by rw [List.reverse_reverse, List.take_append_drop]) (lv_room hs) hd ⟨by show h.1 - b0.1 + (o.2.1 - h.1) ≤ R.cells; omega, by show h.2.1 - b0.2 + (o.2.2.1 - h.2.1) ≤ R.slots; omega⟩) (fun t L hL hU hz hk => ?_)
    have hk2 := k t.heap (locs ++ L) ls hU.1 (fun q hq => by
      rcases List.mem_append.mp hq with g | g
      · exact a2 q g
      · exact hL q g) (fun q hq => (hk q hq).trans (a3 q hq)) (Nat.le_trans a4 hz) a5 a6
    exact W.cs (by show h.1 - b0.1 + (o.2.1 - h.1) = o.2.1 - b0.1; omega) (by show h.2.1 - b0.2 + (o.2.2.1 - h.2.1) = o.2.2.1 - b0.2; omega) hk2
  · obtain ⟨o, hn, hs, hF, hx⟩ := e1
    cases hx
theorem ok_callV {y : MethodName} {bytes : ByteArray} {maxL ix nn d' wd' : Nat} {rt : Option FieldType} {ws : List Cond} {F : ev_F} {C : String} {T : u_T} {N ci : Nat} (hc : cl[ci]? = some (C, T, N)) (hM : ev_Met l cl tyL G y ws d' wd' F)
    (hcw : ∀ (R : Room) (s : State) (args : Array Value) (O : State → Prop) (lo mc ms : Nat), (∀ w ∈ Ts, w.before args s = true) → O s → G lo O → d ≤ R.frames → wd ≤ R.locals → CallW R s args own C ix y bytes maxL rt ws (ev_rm d' wd' mc ms) mc ms nn) (hd : decode cc pc = .ok (.invokevirtual ix, 3)) : ev_Good l cl tyL G cc nL ret nm own Ts d wd pc (ev_callR ci F (nn + 1) (pc + 3)) := by
  refine ⟨fun L stk h => ⟨fun st' e1 => ?_, fun o e1 => ?_⟩, fun p e R s m args below meth c D cA lo O b0 oE X => ⟨fun L stk h g1 g2 Q st' e1 r1 r2 k => ?_, fun L stk h g1 g2 e1 => ?_⟩⟩
  · obtain ⟨o, b, As, fs, hn, hs, hre, hf, hF, hx⟩ := e1
    cases hx
    exact ⟨(hM _ _ o.1 o.2 hF).1, (hM _ _ o.1 o.2 hF).2.1⟩
  · obtain ⟨o2, b, As, fs, hn, hs, hre, hf, hF, hx⟩ := e1
    cases hx
  · obtain ⟨o, b, As, fs, hn, hs, hre, hf, hF, hx⟩ := e1
    cases hx
    obtain ⟨m1, m2, hm⟩ := hM _ _ o.1 o.2 hF
    have hm := hm D cA lo O X.2.2.2.1 X.2.2.2.2.1
    intro H locs ls a1 a2 a3 a4 a5 a6
    have r1' : o.2.1 - b0.1 ≤ R.cells := r1
    have r2' : o.2.2.1 - b0.2 ≤ R.slots := r2
    have hlen : As.length = nn := by have q := congrArg List.length hre; rw [List.length_reverse, List.length_take, List.length_cons] at q; omega
    have hst : stk = As.reverse ++ .ref b :: stk.drop (nn + 1) := by
      have q := congrArg List.reverse hre
      rw [List.reverse_reverse, List.reverse_cons] at q
      have q2 := List.take_append_drop (nn + 1) stk
      rw [q, List.append_assoc] at q2
      exact q2.symm
    rw [hre] at hm
    have hcell : ∃ cellB : Cell, H[b]? = some cellB ∧ cellB.vm.isStatics = false ∧ s.vm.findClass C = some cellB.cls := by
      obtain ⟨r0, h1, cell, q1, q2, q3, q4⟩ := (a1.2 b _ hf).2
      exact ⟨cell, q1, by rw [q3]; rfl, by rw [q2]; exact (X.2.1.1 ci _ hc).2.1⟩
    refine ev_callW (va_runV (As := As) (rest := stk.drop (nn + 1)) (b := b) ⟨X.1.1, X.1.2.1, X.1.2.2.1, X.1.2.2.2.1, X.1.2.2.2.2.1⟩ hm (hcw R s args O lo _ _ X.1.2.2.2.2.1 X.2.2.1 X.2.2.2.2.1 X.2.2.2.2.2.1 X.2.2.2.2.2.2) ⟨ev_blind X.2.2.2.1, hcell, fun U hU hW => ⟨rfl, by rw [hU]; exact a1, va_K.moved hW.alike X.2.1, X.2.2.2.1 s U (Or.inl hW) (by rw [hU]; exact a4) (fun q hq => by rw [hU]; exact a3 q hq) X.2.2.1, by rw [hU]; exact Nat.le_trans a5 a4⟩⟩ rfl hlen a6.1 hst (lv_room hs) hd ⟨by show h.1 - b0.1 + (o.2.1 - h.1) ≤ R.cells; omega, by show h.2.1 - b0.2 + (o.2.2.1 - h.2.1) ≤ R.slots; omega⟩) (fun t L hL hU hz hk => ?_)
    have hk2 := k t.heap (locs ++ L) ls hU.1 (fun q hq => by
      rcases List.mem_append.mp hq with g | g
      · exact a2 q g
      · exact hL q g) (fun q hq => (hk q hq).trans (a3 q hq)) (Nat.le_trans a4 hz) a5 a6
    exact W.cs (by show h.1 - b0.1 + (o.2.1 - h.1) = o.2.1 - b0.1; omega) (by show h.2.1 - b0.2 + (o.2.2.1 - h.2.1) = o.2.2.1 - b0.2; omega) hk2
  · obtain ⟨o, b, As, fs, hn, hs, hre, hf, hF, hx⟩ := e1
    cases hx
theorem ok_callI {y : MethodName} {bytes : ByteArray} {maxL ix nn d' wd' : Nat} {ws : List Cond} {F : ev_F} (hM : ev_Met l cl tyL G y ws d' wd' F)
    (hcw : ∀ (R : Room) (s : State) (args : Array Value) (O : State → Prop) (lo mc ms : Nat), (∀ w ∈ Ts, w.before args s = true) → O s → G lo O → d ≤ R.frames → wd ≤ R.locals → CallB R s args own ix y bytes maxL none ws (ev_rm d' wd' mc ms) mc ms nn ∧ y.name = "<init>" ∧ (Cond.instanceMethod y).before args s = true) (hd : decode cc pc = .ok (.invokespecial ix, 3)) : ev_Good l cl tyL G cc nL ret nm own Ts d wd pc (ev_callI F (nn + 1) (pc + 3)) := by
  refine ⟨fun L stk h => ⟨fun st' e1 => ?_, fun o e1 => ?_⟩, fun p e R s m args below meth c D cA lo O b0 oE X => ⟨fun L stk h g1 g2 Q st' e1 r1 r2 k => ?_, fun L stk h g1 g2 e1 => ?_⟩⟩
  · obtain ⟨o, b, As, hn, hs, hre, hF, hx⟩ := e1
    cases hx
    exact ⟨(hM _ _ o.1 o.2 hF).1, (hM _ _ o.1 o.2 hF).2.1⟩
  · obtain ⟨o2, b, As, hn, hs, hre, hF, hx⟩ := e1
    cases hx
  · obtain ⟨o, b, As, hn, hs, hre, hF, hx⟩ := e1
    cases hx
    obtain ⟨m1, m2, hm⟩ := hM _ _ o.1 o.2 hF
    have hm := hm D cA lo O X.2.2.2.1 X.2.2.2.2.1
    intro H locs ls a1 a2 a3 a4 a5 a6
    have r1' : o.2.1 - b0.1 ≤ R.cells := r1
    have r2' : o.2.2.1 - b0.2 ≤ R.slots := r2
    have hlen : As.length = nn := by have q := congrArg List.length hre; rw [List.length_reverse, List.length_take, List.length_cons] at q; omega
    have hst : stk = As.reverse ++ .ref b :: stk.drop (nn + 1) := by
      have q := congrArg List.reverse hre
      rw [List.reverse_reverse, List.reverse_cons] at q
      have q2 := List.take_append_drop (nn + 1) stk
      rw [q, List.append_assoc] at q2
      exact q2.symm
    rw [hre] at hm
    refine ev_callW (va_runI (As := As) (rest := stk.drop (nn + 1)) (b := b) ⟨X.1.1, X.1.2.1, X.1.2.2.1, X.1.2.2.2.1, X.1.2.2.2.2.1⟩ hm (hcw R s args O lo _ _ X.1.2.2.2.2.1 X.2.2.1 X.2.2.2.2.1 X.2.2.2.2.2.1 X.2.2.2.2.2.2) ⟨ev_blind X.2.2.2.1, fun U hU hW => ⟨rfl, by rw [hU]; exact a1, va_K.moved hW.alike X.2.1, X.2.2.2.1 s U (Or.inl hW) (by rw [hU]; exact a4) (fun q hq => by rw [hU]; exact a3 q hq) X.2.2.1, by rw [hU]; exact Nat.le_trans a5 a4⟩⟩ rfl hlen a6.1 hst (lv_room hs) hd ⟨by show h.1 - b0.1 + (o.2.1 - h.1) ≤ R.cells; omega, by show h.2.1 - b0.2 + (o.2.2.1 - h.2.1) ≤ R.slots; omega⟩) (fun t L hL hU hz hk => ?_)
    have hk2 := k t.heap (locs ++ L) ls hU.1 (fun q hq => by
      rcases List.mem_append.mp hq with g | g
      · exact a2 q g
      · exact hL q g) (fun q hq => (hk q hq).trans (a3 q hq)) (Nat.le_trans a4 hz) a5 a6
    exact W.cs (by show h.1 - b0.1 + (o.2.1 - h.1) = o.2.1 - b0.1; omega) (by show h.2.1 - b0.2 + (o.2.2.1 - h.2.1) = o.2.2.1 - b0.2; omega) hk2
  · obtain ⟨o, b, As, hn, hs, hre, hF, hx⟩ := e1
    cases hx
theorem ok_callSN {y : MethodName} {host : String} {bytes : ByteArray} {maxL ix nn d' wd' : Nat} {rt : Option FieldType} {ws : List Cond} {F : ev_F} (hM : ev_Met l cl tyL G y ws d' wd' F)
    (hcw : ∀ (R : Room) (s : State) (args : Array Value) (O : State → Prop) (lo mc ms : Nat), (∀ w ∈ Ts, w.before args s = true) → O s → G lo O → d ≤ R.frames → wd ≤ R.locals → va_CN R s args own ix y host bytes maxL rt ws (ev_rm d' wd' mc ms) mc ms nn ∧ (Cond.static y).before args s = true ∧ True) (hd : decode cc pc = .ok (.invokestatic ix, 3)) : ev_Good l cl tyL G cc nL ret nm own Ts d wd pc (ev_call F nn (pc + 3)) := by
  refine ⟨fun L stk h => ⟨fun st' e1 => ?_, fun o e1 => ?_⟩, fun p e R s m args below meth c D cA lo O b0 oE X => ⟨fun L stk h g1 g2 Q st' e1 r1 r2 k => ?_, fun L stk h g1 g2 e1 => ?_⟩⟩
  · obtain ⟨o, hn, hs, hF, hx⟩ := e1
    cases hx
    exact ⟨(hM _ _ o.1 o.2 hF).1, (hM _ _ o.1 o.2 hF).2.1⟩
  · obtain ⟨o2, hn, hs, hF, hx⟩ := e1
    cases hx
  · obtain ⟨o, hn, hs, hF, hx⟩ := e1
    cases hx
    obtain ⟨m1, m2, hm⟩ := hM _ _ o.1 o.2 hF
    have hm := hm D cA lo O X.2.2.2.1 X.2.2.2.2.1
    intro H locs ls a1 a2 a3 a4 a5 a6
    have r1' : o.2.1 - b0.1 ≤ R.cells := r1
    have r2' : o.2.2.1 - b0.2 ≤ R.slots := r2
    have hlen : ((stk.take nn).reverse).length = nn := by rw [List.length_reverse, List.length_take]; omega
    refine ev_callW (va_runSN (As := (stk.take nn).reverse) (rest := stk.drop nn) ⟨X.1.1, X.1.2.1, X.1.2.2.1, X.1.2.2.2.1, X.1.2.2.2.2.1⟩ hm (hcw R s args O lo _ _ X.1.2.2.2.2.1 X.2.2.1 X.2.2.2.2.1 X.2.2.2.2.2.1 X.2.2.2.2.2.2) ⟨ev_blind X.2.2.2.1, fun U hU hW => ⟨rfl, by rw [hU]; exact a1, va_K.moved hW.alike X.2.1, X.2.2.2.1 s U (Or.inl hW) (by rw [hU]; exact a4) (fun q hq => by rw [hU]; exact a3 q hq) X.2.2.1, by rw [hU]; exact Nat.le_trans a5 a4⟩⟩ rfl hlen a6.1 (show stk = ((stk.take nn).reverse).reverse ++ stk.drop nn by rw [List.reverse_reverse, List.take_append_drop]) (lv_room hs) hd ⟨by show h.1 - b0.1 + (o.2.1 - h.1) ≤ R.cells; omega, by show h.2.1 - b0.2 + (o.2.2.1 - h.2.1) ≤ R.slots; omega⟩) (fun t L hL hU hz hk => ?_)
    have hk2 := k t.heap (locs ++ L) ls hU.1 (fun q hq => by
      rcases List.mem_append.mp hq with g | g
      · exact a2 q g
      · exact hL q g) (fun q hq => (hk q hq).trans (a3 q hq)) (Nat.le_trans a4 hz) a5 a6
    exact W.cs (by show h.1 - b0.1 + (o.2.1 - h.1) = o.2.1 - b0.1; omega) (by show h.2.1 - b0.2 + (o.2.2.1 - h.2.1) = o.2.2.1 - b0.2; omega) hk2
  · obtain ⟨o, hn, hs, hF, hx⟩ := e1
    cases hx
theorem ok_callVN {y : MethodName} {host : String} {bytes : ByteArray} {maxL ix nn d' wd' : Nat} {rt : Option FieldType} {ws : List Cond} {F : ev_F} {C : String} {T : u_T} {N ci : Nat} (hc : cl[ci]? = some (C, T, N)) (hM : ev_Met l cl tyL G y ws d' wd' F)
    (hcw : ∀ (R : Room) (s : State) (args : Array Value) (O : State → Prop) (lo mc ms : Nat), (∀ w ∈ Ts, w.before args s = true) → O s → G lo O → d ≤ R.frames → wd ≤ R.locals → va_CN R s args own ix y host bytes maxL rt ws (ev_rm d' wd' mc ms) mc ms nn ∧ (Cond.instanceMethod y).before args s = true ∧ (Cond.selects C y y).before args s = true) (hd : decode cc pc = .ok (.invokevirtual ix, 3)) : ev_Good l cl tyL G cc nL ret nm own Ts d wd pc (ev_callR ci F (nn + 1) (pc + 3)) := by
  refine ⟨fun L stk h => ⟨fun st' e1 => ?_, fun o e1 => ?_⟩, fun p e R s m args below meth c D cA lo O b0 oE X => ⟨fun L stk h g1 g2 Q st' e1 r1 r2 k => ?_, fun L stk h g1 g2 e1 => ?_⟩⟩
  · obtain ⟨o, b, As, fs, hn, hs, hre, hf, hF, hx⟩ := e1
    cases hx
    exact ⟨(hM _ _ o.1 o.2 hF).1, (hM _ _ o.1 o.2 hF).2.1⟩
  · obtain ⟨o2, b, As, fs, hn, hs, hre, hf, hF, hx⟩ := e1
    cases hx
  · obtain ⟨o, b, As, fs, hn, hs, hre, hf, hF, hx⟩ := e1
    cases hx
    obtain ⟨m1, m2, hm⟩ := hM _ _ o.1 o.2 hF
    have hm := hm D cA lo O X.2.2.2.1 X.2.2.2.2.1
    intro H locs ls a1 a2 a3 a4 a5 a6
    have r1' : o.2.1 - b0.1 ≤ R.cells := r1
    have r2' : o.2.2.1 - b0.2 ≤ R.slots := r2
    have hlen : As.length = nn := by have q := congrArg List.length hre; rw [List.length_reverse, List.length_take, List.length_cons] at q; omega
    have hst : stk = As.reverse ++ .ref b :: stk.drop (nn + 1) := by
      have q := congrArg List.reverse hre
      rw [List.reverse_reverse, List.reverse_cons] at q
      have q2 := List.take_append_drop (nn + 1) stk
      rw [q, List.append_assoc] at q2
      exact q2.symm
    rw [hre] at hm
    have hcell : ∃ cellB : Cell, H[b]? = some cellB ∧ cellB.vm.isStatics = false ∧ s.vm.findClass C = some cellB.cls := by
      obtain ⟨r0, h1, cell, q1, q2, q3, q4⟩ := (a1.2 b _ hf).2
      exact ⟨cell, q1, by rw [q3]; rfl, by rw [q2]; exact (X.2.1.1 ci _ hc).2.1⟩
    refine ev_callW (va_runVN (As := As) (rest := stk.drop (nn + 1)) (b := b) ⟨X.1.1, X.1.2.1, X.1.2.2.1, X.1.2.2.2.1, X.1.2.2.2.2.1⟩ hm (hcw R s args O lo _ _ X.1.2.2.2.2.1 X.2.2.1 X.2.2.2.2.1 X.2.2.2.2.2.1 X.2.2.2.2.2.2) ⟨ev_blind X.2.2.2.1, hcell, fun U hU hW => ⟨rfl, by rw [hU]; exact a1, va_K.moved hW.alike X.2.1, X.2.2.2.1 s U (Or.inl hW) (by rw [hU]; exact a4) (fun q hq => by rw [hU]; exact a3 q hq) X.2.2.1, by rw [hU]; exact Nat.le_trans a5 a4⟩⟩ rfl hlen a6.1 hst (lv_room hs) hd ⟨by show h.1 - b0.1 + (o.2.1 - h.1) ≤ R.cells; omega, by show h.2.1 - b0.2 + (o.2.2.1 - h.2.1) ≤ R.slots; omega⟩) (fun t L hL hU hz hk => ?_)
    have hk2 := k t.heap (locs ++ L) ls hU.1 (fun q hq => by
      rcases List.mem_append.mp hq with g | g
      · exact a2 q g
      · exact hL q g) (fun q hq => (hk q hq).trans (a3 q hq)) (Nat.le_trans a4 hz) a5 a6
    exact W.cs (by show h.1 - b0.1 + (o.2.1 - h.1) = o.2.1 - b0.1; omega) (by show h.2.1 - b0.2 + (o.2.2.1 - h.2.1) = o.2.2.1 - b0.2; omega) hk2
  · obtain ⟨o, b, As, fs, hn, hs, hre, hf, hF, hx⟩ := e1
    cases hx
theorem ok_callIN {y : MethodName} {host : String} {bytes : ByteArray} {maxL ix nn d' wd' : Nat} {ws : List Cond} {F : ev_F} (hM : ev_Met l cl tyL G y ws d' wd' F)
    (hcw : ∀ (R : Room) (s : State) (args : Array Value) (O : State → Prop) (lo mc ms : Nat), (∀ w ∈ Ts, w.before args s = true) → O s → G lo O → d ≤ R.frames → wd ≤ R.locals → va_CN R s args own ix y host bytes maxL none ws (ev_rm d' wd' mc ms) mc ms nn ∧ y.name = "<init>" ∧ (Cond.instanceMethod y).before args s = true) (hd : decode cc pc = .ok (.invokespecial ix, 3)) : ev_Good l cl tyL G cc nL ret nm own Ts d wd pc (ev_callI F (nn + 1) (pc + 3)) := by
  refine ⟨fun L stk h => ⟨fun st' e1 => ?_, fun o e1 => ?_⟩, fun p e R s m args below meth c D cA lo O b0 oE X => ⟨fun L stk h g1 g2 Q st' e1 r1 r2 k => ?_, fun L stk h g1 g2 e1 => ?_⟩⟩
  · obtain ⟨o, b, As, hn, hs, hre, hF, hx⟩ := e1
    cases hx
    exact ⟨(hM _ _ o.1 o.2 hF).1, (hM _ _ o.1 o.2 hF).2.1⟩
  · obtain ⟨o2, b, As, hn, hs, hre, hF, hx⟩ := e1
    cases hx
  · obtain ⟨o, b, As, hn, hs, hre, hF, hx⟩ := e1
    cases hx
    obtain ⟨m1, m2, hm⟩ := hM _ _ o.1 o.2 hF
    have hm := hm D cA lo O X.2.2.2.1 X.2.2.2.2.1
    intro H locs ls a1 a2 a3 a4 a5 a6
    have r1' : o.2.1 - b0.1 ≤ R.cells := r1
    have r2' : o.2.2.1 - b0.2 ≤ R.slots := r2
    have hlen : As.length = nn := by have q := congrArg List.length hre; rw [List.length_reverse, List.length_take, List.length_cons] at q; omega
    have hst : stk = As.reverse ++ .ref b :: stk.drop (nn + 1) := by
      have q := congrArg List.reverse hre
      rw [List.reverse_reverse, List.reverse_cons] at q
      have q2 := List.take_append_drop (nn + 1) stk
      rw [q, List.append_assoc] at q2
      exact q2.symm
    rw [hre] at hm
    refine ev_callW (va_runIN (As := As) (rest := stk.drop (nn + 1)) (b := b) ⟨X.1.1, X.1.2.1, X.1.2.2.1, X.1.2.2.2.1, X.1.2.2.2.2.1⟩ hm (hcw R s args O lo _ _ X.1.2.2.2.2.1 X.2.2.1 X.2.2.2.2.1 X.2.2.2.2.2.1 X.2.2.2.2.2.2) ⟨ev_blind X.2.2.2.1, fun U hU hW => ⟨rfl, by rw [hU]; exact a1, va_K.moved hW.alike X.2.1, X.2.2.2.1 s U (Or.inl hW) (by rw [hU]; exact a4) (fun q hq => by rw [hU]; exact a3 q hq) X.2.2.1, by rw [hU]; exact Nat.le_trans a5 a4⟩⟩ rfl hlen a6.1 hst (lv_room hs) hd ⟨by show h.1 - b0.1 + (o.2.1 - h.1) ≤ R.cells; omega, by show h.2.1 - b0.2 + (o.2.2.1 - h.2.1) ≤ R.slots; omega⟩) (fun t L hL hU hz hk => ?_)
    have hk2 := k t.heap (locs ++ L) ls hU.1 (fun q hq => by
      rcases List.mem_append.mp hq with g | g
      · exact a2 q g
      · exact hL q g) (fun q hq => (hk q hq).trans (a3 q hq)) (Nat.le_trans a4 hz) a5 a6
    exact W.cs (by show h.1 - b0.1 + (o.2.1 - h.1) = o.2.1 - b0.1; omega) (by show h.2.1 - b0.2 + (o.2.2.1 - h.2.1) = o.2.2.1 - b0.2; omega) hk2
  · obtain ⟨o, b, As, hn, hs, hre, hF, hx⟩ := e1
    cases hx
end COPS
