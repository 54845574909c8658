/-! From the evaluator's run of the law to the machine's. -/
theorem ev_tyA_inv (cA : Nat → ClassId) : ∀ (l : List FieldType) (i k : Nat) (q : ClassId × FieldType), (ev_tyA cA i l)[k]? = some q → ∃ ty, l[k]? = some ty ∧ q = (cA (i + k), ty) := by
  intro l
  induction l with
  | nil => intro i k q h; simp [ev_tyA] at h
  | cons x r ih =>
    intro i k q h
    cases k with
    | zero => simp [ev_tyA] at h; exact ⟨x, rfl, h.symm⟩
    | succ k =>
      simp only [ev_tyA, List.getElem?_cons_succ] at h
      obtain ⟨ty, h1, h2⟩ := ih (i + 1) k q h
      exact ⟨ty, by simpa using h1, by rw [h2, show i + 1 + k = i + (k + 1) by omega]⟩
/-- what the law's run must do: answer 1, within the room -/
def lw_main : Prop := ∀ (b L sz : Nat) (xs : Nat → Int32) (z : Nat × Nat), L ≤ 3584 → b < sz → z.1 < sz → ev_W (mk_law b L xs z) (0, [some (.ref b), none, none, none], [], (sz, 0, fun _ => none)) (fun o => o.1 = some (.int 1) ∧ o.2.1 ≤ sz + 600000 ∧ o.2.2.1 ≤ 7302250)
theorem lw_nw_st {U V : State} (hv : U.WarmedH V.vm ∨ U.vm = V.vm) (h : ∀ w ∈ gw_nw, va_Nw w U) : ∀ w ∈ gw_nw, va_Nw w V := by
  intro w hw
  have h1 := h w hw
  rcases hv with hW | hE
  · simp only [gw_nw, List.mem_cons, List.not_mem_nil, or_false] at hw
    rcases hw with rfl | rfl | rfl | rfl | rfl | rfl | rfl | rfl | rfl | rfl | rfl | rfl | rfl | rfl | rfl | rfl | rfl | rfl | rfl | rfl | rfl | rfl | rfl | rfl | rfl <;> first | exact va_Nw.warmM hW h1 | exact va_Nw.warmC hW h1 | exact va_Nw.warmD hW h1 | exact va_AO.moved hW.alike h1
  · simp only [gw_nw, List.mem_cons, List.not_mem_nil, or_false] at hw
    rcases hw with rfl | rfl | rfl | rfl | rfl | rfl | rfl | rfl | rfl | rfl | rfl | rfl | rfl | rfl | rfl | rfl | rfl | rfl | rfl | rfl | rfl | rfl | rfl | rfl | rfl <;> first | exact va_Nw.same rfl hE h1 | exact va_AO.moved (by rw [hE]; exact Vm.Alike.refl _) h1
set_option maxHeartbeats 4000000 in
set_option maxRecDepth 100000 in
theorem start_open (hM : lw_main) {p : Program} {e : Env} {s : State} {m : MethodId} {below : List Frame} {meth : Method} {c : Code} (l : Launch) {b L : Nat} {xs : Nat → Int32} (hL : L ≤ 3584) (C0 : lw_At p s m meth c b L xs) : W p l e room_1 s m #[Value.ref b] below meth c s.heap [] 0 0 (lw_Z below #[Value.ref b] s) (entryFrame m ([Value.ref b] : List Value).toArray 4) := by
  obtain ⟨hx, hb, hr, hml, hown, hts, hX, hbl, hlk, hgv⟩ := C0
  have hflat := flat_of_before _ hgv
  have hT0 : ∀ w ∈ tb_T, w.before #[Value.ref b] s = true := fun w hw => hts w (List.mem_filter.mp hw).1
  have harr : (Cond.arrayOf (.static "java/util/ArrayList" "DEFAULTCAPACITY_EMPTY_ELEMENTDATA" "[Ljava/lang/Object;") (.object "java/lang/Object")).before #[Value.ref b] s = true := hflat _ (by decide +kernel)
  have hlen0 : (Cond.eq (.length (.static "java/util/ArrayList" "DEFAULTCAPACITY_EMPTY_ELEMENTDATA" "[Ljava/lang/Object;")) (.int 0)).before #[Value.ref b] s = true := hflat _ (by decide +kernel)
  have hmir : (Cond.isRef (.mirror "[Ljava/lang/Object;")).before #[Value.ref b] s = true := hflat _ (by decide +kernel)
  obtain ⟨e0, he0, hTT⟩ := va_Tof (N := 0) (f := fun _ => .null) (A := fun q => s.heap.size ≤ q) (by decide) harr (va_eqt hlen0) (fun j hj => absurd hj (Nat.not_lt_zero _)) (fun a ha q => absurd q (Nat.not_le.mpr ha))
  have hZ : va_Z "java/util/ArrayList" "DEFAULTCAPACITY_EMPTY_ELEMENTDATA" "[Ljava/lang/Object;" (.ref e0) (fun q => s.heap.size ≤ q) s s.heap := va_Zof (hts (.laysStatic "java/util/ArrayList" "DEFAULTCAPACITY_EMPTY_ELEMENTDATA" "[Ljava/lang/Object;") (by decide +kernel)) (hts (.initialized "java/util/ArrayList") (by decide +kernel)) he0 (fun a ha q => absurd q (Nat.not_le.mpr ha))
  obtain ⟨mi, hMi⟩ := va_Mi.of hmir
  have he0l : e0 < s.heap.size := by
    obtain ⟨cell, h1, -⟩ := hTT
    exact (Array.getElem?_eq_some_iff.mp h1).1
  have hnw : ∀ w ∈ gw_nw, va_Nw w s := by
    intro w hw
    have hin : w ∈ lw_tbl := by
      have : gw_nw.all (fun w => decide (w ∈ lw_tbl)) = true := by decide +kernel
      exact of_decide_eq_true (List.all_eq_true.mp this w hw)
    have hb' := hts w hin
    simp only [gw_nw, List.mem_cons, List.not_mem_nil, or_false] at hw
    rcases hw with rfl | rfl | rfl | rfl | rfl | rfl | rfl | rfl | rfl | rfl | rfl | rfl | rfl | rfl | rfl | rfl | rfl | rfl | rfl | rfl | rfl | rfl | rfl | rfl | rfl <;> first | exact va_Nw.of rfl hb' | exact va_AO.of hb'
  obtain ⟨O, hOd⟩ : ∃ O : State → Prop, O = fun U : State => (∀ w ∈ gw_nw, va_Nw w U) ∧ (va_X b L xs U U.heap ∧ b < s.heap.size) ∧ va_Z "java/util/ArrayList" "DEFAULTCAPACITY_EMPTY_ELEMENTDATA" "[Ljava/lang/Object;" (.ref e0) (fun q => s.heap.size ≤ q) U U.heap ∧ va_T (.object "java/lang/Object") e0 0 (fun _ => .null) (fun q => s.heap.size ≤ q) U U.heap ∧ va_Mi "[Ljava/lang/Object;" mi U := ⟨_, rfl⟩
  have hO : O s := by rw [hOd]; exact ⟨hnw, ⟨hX, hbl⟩, hZ, hTT, hMi⟩
  have hG : gw_G b L xs (e0, mi) s.heap.size O := fun U hU => by rw [hOd] at hU; exact hU
  have hSt : ev_St s.heap.size O := by
    intro U V hv hz hq hU
    rw [hOd] at hU ⊢
    obtain ⟨u1, ⟨u2, u2'⟩, u3, u4, u5⟩ := hU
    have hal : U.vm.Alike V.vm := by
      rcases hv with hW | hE
      · exact hW.alike
      · rw [hE]; exact Vm.Alike.refl _
    have hk : ∀ a : Nat, a < U.heap.size → ¬ s.heap.size ≤ a → V.heap[a]? = U.heap[a]? := fun a _ ha => hq a (Nat.not_le.mp ha)
    exact ⟨lw_nw_st hv u1, ⟨(u2.moved hal).kept (hq b u2'), u2'⟩, (u3.moved hal).kept hk, (u4.moved hal).kept hk, u5.moved hal⟩
  have hkn : ∀ (ci : Nat) (q : vw_C), vc_L[ci]? = some q → ∃ (cC : ClassId) (iS : Nat → Nat), u_Kn s q.1 q.2.1 q.2.2 cC iS := by
    intro ci q hq
    have hci : ci < 13 := (List.getElem?_eq_some_iff.mp hq).1
    rcases (show ci = 0 ∨ ci = 1 ∨ ci = 2 ∨ ci = 3 ∨ ci = 4 ∨ ci = 5 ∨ ci = 6 ∨ ci = 7 ∨ ci = 8 ∨ ci = 9 ∨ ci = 10 ∨ ci = 11 ∨ ci = 12 by omega) with rfl | rfl | rfl | rfl | rfl | rfl | rfl | rfl | rfl | rfl | rfl | rfl | rfl
    · cases hq; exact u_known hT0 hi_0 (hT0 _ tw_25)
    · cases hq; exact u_known hT0 hi_1 (hT0 _ tw_36)
    · cases hq; exact u_known hT0 hi_2 (hT0 _ tw_42)
    · cases hq; exact u_known hT0 hi_3 (hT0 _ tw_87)
    · cases hq; exact u_known hT0 hi_4 (hT0 _ tw_95)
    · cases hq; exact u_known hT0 hi_5 (hT0 _ tw_129)
    · cases hq; exact u_known hT0 hi_6 (hT0 _ tw_140)
    · cases hq; exact u_known hT0 hi_7 (hT0 _ tw_168)
    · cases hq; exact u_known hT0 hi_8 (hT0 _ tw_273)
    · cases hq; exact u_known hT0 hi_9 (hT0 _ tw_441)
    · cases hq; exact u_known hT0 hi_10 (hT0 _ tw_478)
    · cases hq; exact u_known hT0 hi_11 (hT0 _ tw_768)
    · cases hq; exact u_known hT0 hi_12 (hT0 _ tw_893)
  have hch : ∀ ci : Nat, ∃ x : ClassId × (Nat → Nat), ∀ q : vw_C, vc_L[ci]? = some q → u_Kn s q.1 q.2.1 q.2.2 x.1 x.2 := by
    intro ci
    cases hq : vc_L[ci]? with
    | none => exact ⟨(0, fun _ => 0), fun q h => by cases h⟩
    | some q =>
      obtain ⟨cC, iS, hk⟩ := hkn ci q hq
      exact ⟨(cC, iS), fun q' h => by cases h; exact hk⟩
  have hca : ∀ t : Nat, ∃ cA : ClassId, ∀ ty : FieldType, vt_L[t]? = some ty → ArrOfT s cA ty ∧ va_RA s cA ty := by
    intro t
    have prim : ∀ ty : FieldType, (Cond.arrayClass ty).before #[Value.ref b] s = true → (∀ cA, va_RA s cA ty = (s.vm.findClass ("[" ++ ty.toString) = some cA)) → ∃ cA : ClassId, ArrOfT s cA ty ∧ va_RA s cA ty := by
      intro ty h hr'
      obtain ⟨cI, k, comp, h1, h2, h3⟩ := Cond.arrayClass_spec h
      exact ⟨cI, fun N zz => ⟨(fun k h => by cases h), k, h2, comp, h3⟩, by rw [hr']; exact h1⟩
    have robj : ∀ C : String, va_AO C s → ∃ cA : ClassId, ArrOfT s cA (.object C) ∧ va_RA s cA (.object C) := by
      intro C h
      obtain ⟨comp, cI, k, h1, h2, h3, h4, h5⟩ := Cond.arrayOver_spec h
      exact ⟨cI, fun N zz => ⟨(fun k h => by cases h), k, h3, comp, h4⟩, k, comp, h3, h4, h1, h5⟩
    have ao : ∀ C : String, Cond.arrayOver (.object C) ∈ gw_nw → va_AO C s := fun C h => hnw _ h
    match t with
    | 0 => obtain ⟨x, h⟩ := prim .int (hT0 _ tw_ai) (fun _ => rfl); exact ⟨x, fun ty h' => by cases h'; exact h⟩
    | 1 => obtain ⟨x, h⟩ := prim .long (hT0 _ tw_al) (fun _ => rfl); exact ⟨x, fun ty h' => by cases h'; exact h⟩
    | 2 => obtain ⟨x, h⟩ := prim .boolean (hT0 _ tw_az) (fun _ => rfl); exact ⟨x, fun ty h' => by cases h'; exact h⟩
    | 3 => obtain ⟨x, h⟩ := robj "java/lang/Object" (ao _ (by decide +kernel)); exact ⟨x, fun ty h' => by cases h'; exact h⟩
    | 4 => obtain ⟨x, h⟩ := robj "MessageHub$Link" (ao _ (by decide +kernel)); exact ⟨x, fun ty h' => by cases h'; exact h⟩
    | 5 => obtain ⟨x, h⟩ := robj "MessageHub$Client" (ao _ (by decide +kernel)); exact ⟨x, fun ty h' => by cases h'; exact h⟩
    | 6 => obtain ⟨x, h⟩ := robj "MessageHub$Connection" (ao _ (by decide +kernel)); exact ⟨x, fun ty h' => by cases h'; exact h⟩
    | 7 => obtain ⟨x, h⟩ := robj "MessageHub$Session" (ao _ (by decide +kernel)); exact ⟨x, fun ty h' => by cases h'; exact h⟩
    | t + 8 => exact ⟨0, fun ty h => by simp [vt_L] at h⟩
  obtain ⟨F, hF⟩ := Classical.axiomOfChoice hch
  obtain ⟨cA, hcA⟩ := Classical.axiomOfChoice hca
  have hK : va_K (fun ci => (F ci).1, fun ci => (F ci).2) vc_L (ev_ty cA vt_L) s := by
    refine ⟨fun ci q hq => hF ci q hq, fun k q hq => ?_⟩
    obtain ⟨ty, h1, h2⟩ := ev_tyA_inv cA vt_L 0 k q hq
    rw [Nat.zero_add] at h2
    subst h2
    exact hcA k ty h1
  obtain ⟨n, o, hrun, h1, h2, h3⟩ := hM b L s.heap.size xs (e0, mi) hL hbl he0l
  have hctx : ev_ctx p l e room_1 s m #[Value.ref b] below meth c code 4 (some .boolean) meth.name "MessageHubLaw" tb_T (fun ci => (F ci).1, fun ci => (F ci).2) vc_L cA vt_L s.heap.size O (gw_G b L xs (e0, mi)) 13 321 := ⟨⟨hx, hb, hml, hown, hT0, hr, hlk, rfl⟩, hK, hO, hSt, hG, by decide, by decide⟩
  have hA := mg_law (l := l) (b := b) (Ls := L) (xs := xs) (z := (e0, mi)) (nm := meth.name)
  have hall := fun pc op hf => (hA.get pc op hf).2 p e room_1 s m #[Value.ref b] below meth c (fun ci => (F ci).1, fun ci => (F ci).2) cA s.heap.size O (s.heap.size, 0) o hctx
  have hJ := ev_run_ok (b0 := (s.heap.size, 0)) (oE := o) (fun pc op hf => (hA.get pc op hf).1) (fun pc op hf => (hall pc op hf).1) (fun pc op hf => (hall pc op hf).2) (show o.2.1 - s.heap.size ≤ 600000 by omega) (show o.2.2.1 - 0 ≤ 7302250 by omega) n _ (Nat.le_refl _) (Nat.le_refl _) hrun
  have hw := hJ s.heap [] ((lg_sl [Value.ref b] ++ List.replicate (4 - (lg_sl [Value.ref b]).length) Slot.unset).toArray) ⟨rfl, fun a x h => by cases h⟩ (fun q hq => by cases hq) (fun q _ => rfl) (Nat.le_refl _) (Nat.le_refl _) (ev_lv.entry (vs := [Value.ref b]) (n := 4) (by simp [ev_lay, Value.category]))
  rw [lg_entry_eq]
  intro T hT X
  simp only [Nat.sub_self] at hw
  obtain ⟨t, hst, o', q1, q2, q3, L1, q4, q5⟩ := hw T hT X
  refine ⟨t, hst, o', q1, q2, ?_⟩
  obtain ⟨qo, -⟩ := q3
  obtain ⟨f1, f2, f3⟩ := q4
  refine ⟨by rw [qo, h1], f1, f2, ?_⟩
  exact f3.weaken (fun y hy hlt => absurd hlt (Nat.not_lt.mpr (q5 y hy))) (show o.2.1 - s.heap.size ≤ 600000 by omega) (show o.2.2.1 - 0 ≤ 7302250 by omega)
