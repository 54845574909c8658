/-! System.arraycopy over arrays of references. -/
def ev_copyq (t : Nat) (cs : List Nat) (nx : Nat) : ev_Op := fun L stk h x => ∃ (n dp sp : Int32) (a1 a0 : Nat) (r : List Value) (n0 n1 : Nat) (f g : Nat → Option Nat), stk = .int n :: .int dp :: .ref a1 :: .int sp :: .ref a0 :: r ∧ h.2.2 a0 = some (.inl (t, n0, .inr (.inr (.inr (.inr f))))) ∧ h.2.2 a1 = some (.inl (t, n1, .inr (.inr (.inr (.inr g))))) ∧
  ¬ sp < 0 ∧ ¬ dp < 0 ∧ ¬ n < 0 ∧ sp.toNatClampNeg + n.toNatClampNeg ≤ n0 ∧ dp.toNatClampNeg + n.toNatClampNeg ≤ n1 ∧ (∀ i : Nat, i < n.toNatClampNeg → ∀ y : Nat, f (sp.toNatClampNeg + i) = some y → ∃ (ci : Nat) (fs : List Value), h.2.2 y = some (.inr (ci, fs)) ∧ ci ∈ cs) ∧ (r.map fun v => v.category).sum ≤ 8 ∧
  x = .inl (nx, L, r, ev_put h a1 (.inl (t, n1, .inr (.inr (.inr (.inr (va_cpy f g sp.toNatClampNeg dp.toNatClampNeg n.toNatClampNeg)))))))
section CPY
variable {l : Launch} {cl : List vw_C} {tyL : List FieldType} {G : Nat → (State → Prop) → Prop} {cc : ByteArray} {nL : Nat} {ret : Option FieldType} {nm own : String} {Ts : List Cond} {d wd pc : Nat}
theorem ok_copyq {t ix : Nat} {E : String} {cs : List Nat} (ht : tyL[t]? = some (.object E)) (hcs : ∀ ci ∈ cs, ∃ (C : String) (T : u_T) (N : Nat), cl[ci]? = some (C, T, N) ∧ (C = E ∨ ∀ (lo : Nat) (O : State → Prop) (s : State), G lo O → O s → va_Nw (.castable C E) s)) (hd0 : 1 ≤ d) (hw0 : 8 + (nativeFrameWords "java/lang/System" "arraycopy" 5 + 11) ≤ wd)
    (w1 : Cond.methodLink own ix arraycopyName ∈ Ts) (w2 : Cond.native arraycopyName ∈ Ts) (w3 : Cond.static arraycopyName ∈ Ts) (w4 : Cond.initialized "java/lang/System" ∈ Ts) (hd : decode cc pc = .ok (.invokestatic ix, 3)) : ev_Good l cl tyL G cc nL ret nm own Ts d wd pc (ev_copyq t cs (pc + 3)) := by
  refine ⟨fun L stk h => ⟨fun st' e1 => ?_, fun o e1 => ?_⟩, fun p e R s m args below meth c D cA lo O b0 oE X => ⟨fun L stk h g1 g2 Q st' e1 r1 r2 k => ?_, fun L stk h g1 g2 e1 => ?_⟩⟩
  · obtain ⟨n, dp, sp, a1, a0, r, n0, n1, f, g, -, -, -, -, -, -, -, -, -, -, hx⟩ := e1
    cases hx
    exact ⟨Nat.le_refl _, Nat.le_refl _⟩
  · obtain ⟨n, dp, sp, a1, a0, r, n0, n1, f, g, -, -, -, -, -, -, -, -, -, -, hx⟩ := e1
    cases hx
  · obtain ⟨n, dp, sp, a, a0, r, n0, n1, f, g, hstk, hf0, hf1, h1, h2, h3, h4, h5, hel, hsum, hx⟩ := e1
    cases hx
    subst hstk
    intro H locs ls b1 b2 b3 b4 b5 b6
    obtain ⟨hloa, hc1⟩ := b1.2 a _ hf1
    have hc1 : H[a]? = some (vp_cell (cA t) (n1, .inr (.inr (.inr (.inr g))))) := hc1
    have hc0 : H[a0]? = some (vp_cell (cA t) (n0, .inr (.inr (.inr (.inr f))))) := (b1.2 a0 _ hf0).2
    have hts := X.1.2.2.2.2.1
    have hK := X.2.1
    have nn : ∀ z : Int32, ¬ z < 0 → z.toInt = (z.toNatClampNeg : Int) := by
      intro z hz
      have hz0 : (0 : Int) ≤ z.toInt := by
        have := Int32.not_lt.mp hz
        simpa using Int32.le_iff_toInt_le.mp this
      show z.toInt = ((z.toInt.toNat : Nat) : Int)
      omega
    intro T hT XT
    obtain ⟨-, k0, hk0, cm0, hkk0⟩ := (hK.2 t _ (ev_ty_get ht)).1 n0 (fun j => va_rf (f j))
    obtain ⟨-, k1, hk1, cm1, hkk1⟩ := (hK.2 t _ (ev_ty_get ht)).1 n1 (fun j => va_rf (g j))
    obtain ⟨vm', X', step⟩ := XT.arraycopy X.1.1 X.1.2.2.2.1 (hts _ w1) (hts _ w2) (hts _ w3) (hts _ w4) (src := a0) (dst := a) (cs := vp_cell (cA t) (n0, .inr (.inr (.inr (.inr f))))) (cd := vp_cell (cA t) (n1, .inr (.inr (.inr (.inr g))))) (srcPos := sp) (destPos := dp) (n := n) (by rw [hT]; exact hc0) (by rw [hT]; exact hc1)
      (fun _ h => by cases h) (fun _ h => by cases h) (fun h => by cases h) (fun h => by cases h) hk0 hk1 hkk0 hkk1 rfl h1 h2 h3
      (by rw [nn sp h1, nn n h3]; show ¬ _ > ((arrV (cA t) n0 (fun j => va_rf (f j))).slots.size : Int); rw [arrV_size]; omega)
      (by rw [nn dp h2, nn n h3]; show ¬ _ > ((arrV (cA t) n1 (fun j => va_rf (g j))).slots.size : Int); rw [arrV_size]; omega)
      (fun vm₁ hal i hi => by
        have e : (vp_cell (cA t) (n0, .inr (.inr (.inr (.inr f))))).slots.getD (sp.toNatClampNeg + i) .null = va_rf (f (sp.toNatClampNeg + i)) := by
          show (arrV (cA t) n0 (fun j => va_rf (f j))).slots.getD _ _ = _
          rw [Array.getD_eq_getD_getElem?, arrV_read _ _ (by omega)]
          rfl
        rw [e]
        cases hy : f (sp.toNatClampNeg + i) with
        | none => exact ⟨rfl, trivial⟩
        | some y =>
          obtain ⟨ci, fs, hfy, hci⟩ := hel i hi y hy
          obtain ⟨C, TT, N, hcC, hCE⟩ := hcs ci hci
          obtain ⟨r0, hr0, cellV, q1, q2, q3, -⟩ := (b1.2 y _ hfy).2
          have hcls := (hK.1 ci _ hcC).2
          obtain ⟨kC, hkC, -⟩ := hcls.2
          obtain ⟨kA, comp, r1', r2', r3, -⟩ := (hK.2 t _ (ev_ty_get ht)).2
          cases hk1.symm.trans r1'
          cases hkk1.symm.trans r2'
          obtain ⟨kE, hkE, -⟩ := Vm.findClass_spec r3
          obtain ⟨kC', hkC', -⟩ := hal.2.2 _ _ hkC
          obtain ⟨kE', hkE', -⟩ := hal.2.2 _ _ hkE
          have hasg : s.vm.assignable (D.1 ci) cm1 = true := by
            rcases hCE with rfl | hC
            · have hcomp : cm1 = D.1 ci := Option.some.inj (r3.symm.trans hcls.1)
              rw [hcomp]
              exact va_assign hcls
            · obtain ⟨c0, t0, f1, f2, f3⟩ := Cond.castable_spec (va_Nw.use (A := args) rfl (hC lo O s X.2.2.2.2.1 X.2.2.1))
              have e1 : c0 = D.1 ci := Option.some.inj (f1.symm.trans hcls.1)
              have e2 : t0 = cm1 := Option.some.inj (f2.symm.trans r3)
              rw [← e1, ← e2]
              exact f3
          have q2' : cellV.cls = D.1 ci := q2
          refine ⟨rfl, cellV, (show T.heap[y]? = some cellV by rw [hT]; exact q1), (fun q h => by rw [q3] at h; cases h), ⟨kC', by rw [q2']; exact hkC'⟩, ?_, ?_⟩
          · exact ⟨kE', hkE'⟩
          · show vm₁.assignable _ _ = true
            rw [hal.assignable, q2']
            exact hasg)
      (g := F0 m pc ls (.int n :: .int dp :: .ref a :: .int sp :: .ref a0 :: r)) rfl (by show ls.size = c.maxLocals; rw [X.1.2.2.1]; exact b6.1) (rest := r) rfl (by rw [X.1.2.1]; exact hd) (Nat.le_trans hd0 X.2.2.2.2.2.1) (by have hwl := X.2.2.2.2.2.2; show 2 * 0 + _ + _ ≤ _; omega)
    have e1 : copied (vp_cell (cA t) (n0, .inr (.inr (.inr (.inr f))))) (vp_cell (cA t) (n1, .inr (.inr (.inr (.inr g))))) sp dp n = vp_cell (cA t) (n1, .inr (.inr (.inr (.inr (va_cpy f g sp.toNatClampNeg dp.toNatClampNeg n.toNatClampNeg))))) := by
      rw [vp_cell_q, vp_cell_q, vp_cell_q]
      exact va_copied (fun z => va_rf z) (cA t) (cA t) f g h4
    rw [e1] at X' step
    have hl : a < H.size := (Array.getElem?_eq_some_iff.mp hc1).1
    have hheap : ((T.setVm vm').setCell a (vp_cell (cA t) (n1, .inr (.inr (.inr (.inr (va_cpy f g sp.toNatClampNeg dp.toNatClampNeg n.toNatClampNeg))))))).heap = H.setIfInBounds a (vp_cell (cA t) (n1, .inr (.inr (.inr (.inr (va_cpy f g sp.toNatClampNeg dp.toNatClampNeg n.toNatClampNeg)))))) := by rw [← hT]; rfl
    have oq : ∀ q : Nat, q ≠ a → (H.setIfInBounds a (vp_cell (cA t) (n1, .inr (.inr (.inr (.inr (va_cpy f g sp.toNatClampNeg dp.toNatClampNeg n.toNatClampNeg)))))))[q]? = H[q]? := fun q hq => by simp [Array.getElem?_setIfInBounds, Ne.symm hq]
    obtain ⟨t2, a1', b1'⟩ := k _ _ ls (b1.put (x := .inl (t, n1, .inr (.inr (.inr (.inr (va_cpy f g sp.toNatClampNeg dp.toNatClampNeg n.toNatClampNeg)))))) hloa (by simp) oq (show (H.setIfInBounds a _)[a]? = some _ by simp [Array.getElem?_setIfInBounds, hl])) (fun q hq => by
      rcases List.mem_append.mp hq with h | h
      · exact b2 q h
      · obtain ⟨z, -, hz⟩ := List.mem_map.mp h
        rw [← hz]
        exact hloa) (fun q hq => by rw [oq q (by omega)]; exact b3 q hq) (by simp; exact b4) b5 b6 _ hheap X'
    exact ⟨t2, step t2 a1', b1'⟩
  · obtain ⟨n, dp, sp, a1, a0, r, n0, n1, f, g, -, -, -, -, -, -, -, -, -, -, hx⟩ := e1
    cases hx
end CPY
