/-! ArrayList: clear, remove, add. -/
theorem sp_A_clear_loop (z : Nat × Nat) {a e cap n : Nat} {Q : ev_O → Prop} (hc : cap < 2 ^ 31) (hn : n ≤ cap) : ∀ (m i : Nat) (f : Nat → Option Nat) (h : ev_H), n - i = m → i ≤ n → h.2.2 e = some (.inl (3, cap, .inr (.inr (.inr (.inr f))))) →
    (∀ (h' : ev_H) (f' : Nat → Option Nat), h'.1 = h.1 → h'.2.1 = h.2.1 → h'.2.2 e = some (.inl (3, cap, .inr (.inr (.inr (.inr f'))))) → (∀ b, b ≠ e → h'.2.2 b = h.2.2 b) → Q (none, h')) →
    ev_W (mk_A_clear z) (27, [some (.ref a), some (.ref e), some (.int (nI n)), some (.int (nI i))], [], h) Q := by
  intro m
  induction m with
  | zero =>
    intro i f h hm hi he k
    refine ev_W.fn rfl rfl ?_
    refine ev_W.fn rfl rfl ?_
    refine ev_W.brT rfl rfl (nI_le (by omega) (by omega)) ?_
    exact ev_W.ret rfl rfl (k h f rfl rfl he (fun _ _ => rfl))
  | succ m ih =>
    intro i f h hm hi he k
    refine ev_W.fn rfl rfl ?_
    refine ev_W.fn rfl rfl ?_
    refine ev_W.brF rfl rfl (nI_ge (by omega) (by omega)) ?_
    refine ev_W.fn rfl rfl ?_
    refine ev_W.fn rfl rfl ?_
    refine ev_W.fn rfl rfl ?_
    refine ev_W.aast0 rfl he (by decide) rfl (by omega) hc ?_
    refine ev_W.fn rfl rfl ?_
    refine ev_W.fn rfl rfl ?_
    show ev_W _ (27, [some (.ref a), some (.ref e), some (.int (nI n)), some (.int (nI i + 1))], [], _) Q
    rw [nI_1]
    refine ih (i + 1) _ _ (by omega) (by omega) ev_put_same (fun h' f' e1 e2 e3 e4 => k h' f' e1 e2 e3 (fun b hb => ?_))
    rw [e4 b hb, ev_put_ne hb]
theorem sp_A_clear (z : Nat × Nat) {a e cap : Nat} {xs : List Nat} {h : ev_H} {Q : ev_O → Prop} (ha : ls_at z h a e cap xs) (hae : e ≠ a) (hc : cap < 2 ^ 31)
    (k : ∀ h' : ev_H, ls_at z h' a e cap [] → (∀ b, (b ≠ e ∨ e = z.1) → b ≠ a → h'.2.2 b = h.2.2 b) → h'.1 = h.1 → h'.2.1 = h.2.1 → Q (none, h')) : ev_M (mf_A_clear z) [.ref a] h Q := by
  obtain ⟨mc, h1, h2⟩ := ha
  refine ev_M.go rfl rfl ?_
  refine ev_W.fn rfl rfl ?_
  refine ev_W.fn rfl rfl ?_
  refine ev_W.obj rfl h1 rfl ?_
  refine ev_W.fn rfl rfl ?_
  refine ev_W.fn rfl rfl ?_
  refine ev_W.putf rfl h1 rfl rfl rfl ?_
  refine ev_W.fn rfl rfl ?_
  refine ev_W.obj rfl ev_put_same rfl ?_
  refine ev_W.fn rfl rfl ?_
  refine ev_W.fn rfl rfl ?_
  refine ev_W.obj rfl ev_put_same rfl ?_
  refine ev_W.fn rfl rfl ?_
  refine ev_W.fn rfl rfl ?_
  refine ev_W.fn rfl rfl ?_
  refine ev_W.fn rfl rfl ?_
  refine ev_W.putf rfl ev_put_same rfl rfl rfl ?_
  refine ev_W.fn rfl rfl ?_
  rcases h2 with ⟨g1, g2, g3⟩ | ⟨g1, f, g2, g3, g4⟩
  · subst g2
    refine ev_W.fn rfl rfl ?_
    refine ev_W.fn rfl rfl ?_
    refine ev_W.fn rfl rfl ?_
    refine ev_W.ret rfl rfl ?_
    exact k _ ⟨mc + 1, ev_put_same, Or.inl ⟨g1, rfl, g3⟩⟩ (fun b _ hb => by rw [ev_put_ne hb, ev_put_ne hb]) rfl rfl
  · refine sp_A_clear_loop z hc g3 _ 0 f _ rfl (Nat.zero_le _) ?_ (fun h' f' e1 e2 e3 e4 => ?_)
    · rw [ev_put_ne hae, ev_put_ne hae]; exact g2
    · refine k h' ⟨mc + 1, ?_, Or.inr ⟨g1, f', e3, Nat.zero_le _, fun i hi => absurd hi (Nat.not_lt_zero _)⟩⟩ (fun b hb1 hb2 => ?_) e1 e2
      · rw [e4 a (Ne.symm hae), ev_put_same]; rfl
      · rw [e4 b (hb1.elim id (fun q => absurd q g1)), ev_put_ne hb2, ev_put_ne hb2]
theorem ls_erase {f : Nat → Option Nat} {xs : List Nat} {i : Nat} (hi : i < xs.length) (h : ∀ j, j < xs.length → f j = xs[j]?) : ∀ j, j < (xs.eraseIdx i).length → va_up (va_cpy f f (i + 1) i (xs.length - 1 - i)) (xs.length - 1) none j = (xs.eraseIdx i)[j]? := by
  intro j hj
  rw [List.length_eraseIdx, if_pos hi] at hj
  rw [va_up_ne _ _ (by omega), List.getElem?_eraseIdx]
  by_cases hji : j < i
  · rw [if_pos hji, pk_cpy_out (by omega)]
    exact h j (by omega)
  · rw [if_neg hji, pk_cpy_in (by omega) (by omega), show i + 1 + (j - i) = j + 1 by omega]
    exact h (j + 1) (by omega)
theorem sp_A_fastRemove (z : Nat × Nat) {a e cap i : Nat} {xs : List Nat} {h : ev_H} {Q : ev_O → Prop} (ha : ls_at z h a e cap xs) (hob : ls_ob h xs) (hax : a ∉ xs) (hae : e ≠ a) (hc : cap < 2 ^ 31) (hi : i < xs.length)
    (k : ∀ h' : ev_H, ls_at z h' a e cap (xs.eraseIdx i) → (∀ b, b ≠ e → b ≠ a → h'.2.2 b = h.2.2 b) → h'.1 = h.1 → h'.2.1 = h.2.1 → Q (none, h')) : ev_M (mf_A_fastRemove z) [.ref a, .ref e, .int (nI i)] h Q := by
  obtain ⟨mc, h1, h2⟩ := ha
  obtain ⟨hne, f, h3, h4, h5⟩ := h2.pos (by omega)
  have hsub : nI xs.length - 1 = nI (xs.length - 1) := by
    have := pk_sub (a := xs.length) (b := 1) (by omega)
    exact this
  have hlen : (xs.eraseIdx i).length = xs.length - 1 := by rw [List.length_eraseIdx, if_pos hi]
  refine ev_M.go rfl rfl ?_
  refine ev_W.fn rfl rfl ?_
  refine ev_W.fn rfl rfl ?_
  refine ev_W.obj rfl h1 rfl ?_
  refine ev_W.fn rfl rfl ?_
  refine ev_W.fn rfl rfl ?_
  refine ev_W.putf rfl h1 rfl rfl rfl ?_
  refine ev_W.fn rfl rfl ?_
  refine ev_W.obj rfl ev_put_same rfl ?_
  refine ev_W.fn rfl rfl ?_
  refine ev_W.fn rfl rfl ?_
  refine ev_W.fn rfl rfl ?_
  refine ev_W.fn rfl rfl ?_
  refine ev_W.fn rfl rfl ?_
  rw [hsub]
  have he1 : (ev_put h a (.inr (2, [.ref e, .int (nI xs.length), .int (mc + 1)]))).2.2 e = some (.inl (3, cap, .inr (.inr (.inr (.inr f))))) := by rw [ev_put_ne hae]; exact h3
  refine ev_W.br rfl rfl (fun hb => ?_) (fun hb => ?_)
  · have hlast : i = xs.length - 1 := by
      have := (nI_leI (a := xs.length - 1) (b := i) (by omega) (by omega)).mp hb
      omega
    refine ev_W.fn rfl rfl ?_
    refine ev_W.fn rfl rfl ?_
    refine ev_W.fn rfl rfl ?_
    refine ev_W.fn rfl rfl ?_
    refine ev_W.putf rfl ev_put_same rfl rfl rfl ?_
    refine ev_W.fn rfl rfl ?_
    refine ev_W.aast0 (f := f) (n := cap) (t := 3) (j := xs.length - 1) rfl (by rw [ev_put_ne hae]; exact he1) (by decide) rfl (by omega) hc ?_
    refine ev_W.ret rfl rfl ?_
    refine k _ ⟨mc + 1, ?_, Or.inr ⟨hne, va_up f (xs.length - 1) none, ev_put_same, by omega, fun j hj => ?_⟩⟩ (fun b hb1 hb2 => ?_) rfl rfl
    · rw [ev_put_ne (Ne.symm hae), ev_put_same, hlen]; rfl
    · have := ls_erase hi h5 j hj
      rw [← this]
      rw [hlen] at hj
      rw [va_up_ne _ _ (by omega), va_up_ne _ _ (by omega), pk_cpy_out (by omega)]
    · rw [ev_put_ne hb1, ev_put_ne hb2, ev_put_ne hb2]
  · have hlast : i < xs.length - 1 := by
      apply Nat.lt_of_not_le
      intro hq
      exact hb ((nI_leI (a := xs.length - 1) (b := i) (by omega) (by omega)).mpr hq)
    refine ev_W.fn rfl rfl ?_
    refine ev_W.fn rfl rfl ?_
    refine ev_W.fn rfl rfl ?_
    refine ev_W.fn rfl rfl ?_
    refine ev_W.fn rfl rfl ?_
    refine ev_W.fn rfl rfl ?_
    refine ev_W.fn rfl rfl ?_
    refine ev_W.fn rfl rfl ?_
    refine ev_W.fn rfl rfl ?_
    refine ev_W.copy (n := xs.length - 1 - i) (dp := i) (sp := i + 1) (f := f) (g := f) rfl he1 he1 (pk_sub (by omega)) rfl (nI_1 i) hc hc (by omega) (by omega) (fun j hj y hy => ?_) rfl ?_
    · have hy' : xs[i + 1 + j]? = some y := by rw [← h5 (i + 1 + j) (by omega)]; exact hy
      have hm := List.mem_of_getElem? hy'
      obtain ⟨ci, fs, q1, q2⟩ := hob y hm
      exact ⟨ci, fs, by rw [ev_put_ne (fun q => hax (by rw [← q]; exact hm))]; exact q1, q2⟩
    · refine ev_W.fn rfl rfl ?_
      refine ev_W.fn rfl rfl ?_
      refine ev_W.fn rfl rfl ?_
      refine ev_W.fn rfl rfl ?_
      refine ev_W.putf (fs := [.ref e, .int (nI xs.length), .int (mc + 1)]) rfl (by rw [ev_put_ne (Ne.symm hae)]; exact ev_put_same) rfl rfl rfl ?_
      refine ev_W.fn rfl rfl ?_
      refine ev_W.aast0 (f := va_cpy f f (i + 1) i (xs.length - 1 - i)) (n := cap) (t := 3) (j := xs.length - 1) rfl (by rw [ev_put_ne hae]; exact ev_put_same) (by decide) rfl (by omega) hc ?_
      refine ev_W.ret rfl rfl ?_
      refine k _ ⟨mc + 1, ?_, Or.inr ⟨hne, _, ev_put_same, by omega, ls_erase hi h5⟩⟩ (fun b hb1 hb2 => ?_) rfl rfl
      · rw [ev_put_ne (Ne.symm hae), ev_put_same, hlen]; rfl
      · rw [ev_put_ne hb1, ev_put_ne hb2, ev_put_ne hb1, ev_put_ne hb2]
theorem sp_A_remove (z : Nat × Nat) {a e cap i x : Nat} {xs : List Nat} {h : ev_H} {Q : ev_O → Prop} (ha : ls_at z h a e cap xs) (hob : ls_ob h xs) (hax : a ∉ xs) (hae : e ≠ a) (hc : cap < 2 ^ 31) (hi : xs[i]? = some x)
    (k : ∀ h' : ev_H, ls_at z h' a e cap (xs.eraseIdx i) → (∀ b, b ≠ e → b ≠ a → h'.2.2 b = h.2.2 b) → h'.1 = h.1 → h'.2.1 = h.2.1 → Q (some (.ref x), h')) : ev_M (mf_A_remove z) [.ref a, .int (nI i)] h Q := by
  have hl : i < xs.length := (List.getElem?_eq_some_iff.mp hi).1
  have ha0 := ha
  obtain ⟨mc, h1, h2⟩ := ha
  obtain ⟨hne, f, h3, h4, h5⟩ := h2.pos (by omega)
  refine ev_M.go rfl rfl ?_
  refine ev_W.fn rfl rfl ?_
  refine ev_W.fn rfl rfl ?_
  refine ev_W.obj rfl h1 rfl ?_
  refine ev_W.cl rfl rfl rfl rfl rfl ?_
  refine sp_JO z hl (by omega) ?_
  refine ev_W.fn rfl rfl ?_
  refine ev_W.fn rfl rfl ?_
  refine ev_W.obj rfl h1 rfl ?_
  refine ev_W.fn rfl rfl ?_
  refine ev_W.fn rfl rfl ?_
  refine ev_W.fn rfl rfl ?_
  refine ev_W.aaldN rfl h3 (by decide) rfl (by omega) hc ?_
  rw [h5 i hl, hi]
  refine ev_W.fn rfl rfl ?_
  refine ev_W.fn rfl rfl ?_
  refine ev_W.fn rfl rfl ?_
  refine ev_W.fn rfl rfl ?_
  refine ev_W.clR rfl rfl rfl rfl rfl h1 ?_
  refine sp_A_fastRemove z ha0 hob hax hae hc hl (fun h' q1 q2 q3 q4 => ?_)
  refine ev_W.fn rfl rfl ?_
  exact ev_W.ret rfl rfl (k h' q1 q2 q3 q4)
