/-! ArrayList: add, with growth. -/
def hp_ok (z : Nat × Nat) (h : ev_H) : Prop := (∀ b x, h.2.2 b = some x → b < h.1) ∧ h.2.2 z.1 = none ∧ z.1 < h.1
theorem hp_ok.put {z : Nat × Nat} {h : ev_H} {a : Nat} {x : ev_E} (hh : hp_ok z h) (ha : a < h.1) (hz : a ≠ z.1) : hp_ok z (ev_put h a x) := by
  refine ⟨fun b y hb => ?_, ?_, hh.2.2⟩
  · simp only [ev_put, ev_upd] at hb
    split at hb
    · rename_i e; rw [e]; exact ha
    · exact hh.1 b y hb
  · rw [ev_put_ne (Ne.symm hz)]; exact hh.2.1
theorem hp_ok.new {z : Nat × Nat} {h : ev_H} {k : Nat} {x : ev_E} (hh : hp_ok z h) : hp_ok z (ev_new h k x) := by
  refine ⟨fun b y hb => ?_, ?_, Nat.lt_succ_of_lt hh.2.2⟩
  · simp only [ev_new, ev_upd] at hb
    split at hb
    · rename_i e; rw [e]; exact Nat.lt_succ_self _
    · exact Nat.lt_succ_of_lt (hh.1 b y hb)
  · rw [ev_new_ne (Nat.ne_of_lt hh.2.2)]; exact hh.2.1
theorem hp_ok.nz {z : Nat × Nat} {h : ev_H} {a : Nat} {x : ev_E} (hh : hp_ok z h) (ha : h.2.2 a = some x) : a ≠ z.1 := fun e => by rw [e, hh.2.1] at ha; cases ha
theorem sp_JS_newLength (z : Nat × Nat) {old : Nat} {h : ev_H} {Q : ev_O → Prop} (h2 : 2 ≤ old) (hm : old ≤ 60000) (k : Q (some (.int (nI (old + old / 2))), h)) : ev_M (mf_JS_newLength z) [.int (nI old), .int (nI 1), .int (nI (old / 2))] h Q := by
  have e1 : nI old + (if nI 1 < nI (old / 2) then nI (old / 2) else nI 1) = nI (old + old / 2) := by
    by_cases c : 1 < old / 2
    · rw [if_pos (nI_lt c (by omega)), nI_add]
    · rw [if_neg (nI_nlt (by omega) (by decide)), nI_add, show old / 2 = 1 by omega]
  refine ev_M.go rfl rfl ?_
  refine ev_W.fn rfl rfl ?_
  refine ev_W.fn rfl rfl ?_
  refine ev_W.fn rfl rfl ?_
  refine ev_W.fn rfl rfl ?_
  refine ev_W.fn rfl rfl ?_
  rw [e1]
  refine ev_W.fn rfl rfl ?_
  refine ev_W.fn rfl rfl ?_
  refine ev_W.fn rfl rfl ?_
  refine ev_W.brF rfl rfl (show ¬ nI (old + old / 2) ≤ nI 0 from nI_ge (by omega) (by omega)) ?_
  refine ev_W.fn rfl rfl ?_
  refine ev_W.fn rfl rfl ?_
  refine ev_W.brF rfl rfl (show ¬ nI 2147483639 < nI (old + old / 2) from nI_nlt (by omega) (by decide)) ?_
  refine ev_W.fn rfl rfl ?_
  exact ev_W.ret rfl rfl k
theorem sp_JA_copyOf (z : Nat × Nat) {e cap n : Nat} {f : Nat → Option Nat} {h : ev_H} {Q : ev_O → Prop} (hh : hp_ok z h) (he : h.2.2 e = some (.inl (3, cap, .inr (.inr (.inr (.inr f)))))) (hcn : cap ≤ n) (hn : n ≤ 65536) (hob : ∀ i, i < cap → ∀ y, f i = some y → ∃ (ci : Nat) (fs : List Value), h.2.2 y = some (.inr (ci, fs)) ∧ ci ∈ gw_cs)
    (k : Q (some (.ref h.1), ev_put (ev_new h n (.inl (3, n, .inr (.inr (.inr (.inr (fun _ => none))))))) h.1 (.inl (3, n, .inr (.inr (.inr (.inr (va_cpy f (fun _ => none) 0 0 cap)))))))) : ev_M (mf_JA_copyOf z) [.ref e, .int (nI n)] h Q := by
  have hez : e ≠ z.1 := hh.nz he
  have heh : e ≠ h.1 := Nat.ne_of_lt (hh.1 e _ he)
  refine ev_M.go rfl rfl ?_
  refine ev_W.fn rfl rfl ?_
  refine ev_W.fn rfl rfl ?_
  refine ev_W.fn rfl rfl ?_
  refine ev_W.fn (st' := (6, [some (.ref e), some (.int (nI n))], [.ref z.2, .int (nI n), .ref e], h)) rfl (by simp only [ev_getC, he]; rfl) ?_
  refine ev_W.cl rfl rfl rfl rfl rfl ?_
  refine ev_M.go rfl rfl ?_
  refine ev_W.fn rfl rfl ?_
  refine ev_W.fn rfl rfl ?_
  refine ev_W.brF rfl rfl (fun q => q rfl) ?_
  refine ev_W.fn rfl rfl ?_
  refine ev_W.newqN rfl rfl hn ?_
  refine ev_W.fn rfl rfl ?_
  refine ev_W.fn rfl rfl ?_
  refine ev_W.fn rfl rfl ?_
  refine ev_W.fn rfl rfl ?_
  refine ev_W.fn rfl rfl ?_
  refine ev_W.fn rfl rfl ?_
  refine ev_W.fn rfl rfl ?_
  refine ev_W.alenA (t := 3) (x := (cap, .inr (.inr (.inr (.inr f))))) rfl hez (by rw [ev_new_ne heh]; exact he) (by decide) ?_
  refine ev_W.fn rfl rfl ?_
  refine ev_W.fn rfl rfl ?_
  refine ev_W.copy (n := cap) (dp := 0) (sp := 0) (n0 := cap) (n1 := n) (f := f) (g := fun _ => none) rfl (by rw [ev_new_ne heh]; exact he) ev_new_same (if_neg (nI_nlt hcn (by omega))) rfl rfl (by omega) (by omega) (by omega) (by omega) (fun i hi y hy => ?_) rfl ?_
  · rw [Nat.zero_add] at hy
    obtain ⟨ci, fs, q1, q2⟩ := hob i hi y hy
    exact ⟨ci, fs, by rw [ev_new_ne (Nat.ne_of_lt (hh.1 y _ q1))]; exact q1, q2⟩
  · refine ev_W.fn rfl rfl ?_
    refine ev_W.ret rfl rfl ?_
    exact ev_W.ret rfl rfl k
-- the array grows when it is full
theorem sp_A_grow (z : Nat × Nat) {a e cap : Nat} {xs : List Nat} {h : ev_H} {Q : ev_O → Prop} (hh : hp_ok z h) (ha : ls_at z h a e cap xs) (hfull : xs.length = cap) (hob : ls_ob h xs) (hc : e = z.1 ∨ 2 ≤ cap) (hc2 : cap ≤ 40000)
    (k : ∀ (h' : ev_H) (cap' : Nat) (f' : Nat → Option Nat) (mc : Int32), h'.2.2 a = some (.inr (2, [.ref h.1, .int (nI xs.length), .int mc])) → h'.2.2 h.1 = some (.inl (3, cap', .inr (.inr (.inr (.inr f'))))) → (∀ i, i < xs.length → f' i = xs[i]?) → xs.length < cap' → cap' ≤ cap + cap / 2 + 10 → (2 ≤ cap') → (∀ b, b ≠ h.1 → b ≠ a → h'.2.2 b = h.2.2 b) → h'.1 = h.1 + 1 → h'.2.1 = h.2.1 + cap' → Q (some (.ref h.1), h')) : ev_M (mf_A_grow z) [.ref a] h Q := by
  obtain ⟨mc, h1, h2⟩ := ha
  have hah : a ≠ h.1 := Nat.ne_of_lt (hh.1 a _ h1)
  refine ev_M.go rfl rfl ?_
  refine ev_W.fn rfl rfl ?_
  refine ev_W.fn rfl rfl ?_
  refine ev_W.obj rfl h1 rfl ?_
  refine ev_W.fn rfl rfl ?_
  refine ev_W.fn rfl rfl ?_
  rw [nI_1]
  refine ev_W.clR rfl rfl rfl rfl rfl h1 ?_
  refine ev_M.go rfl rfl ?_
  refine ev_W.fn rfl rfl ?_
  refine ev_W.obj rfl h1 rfl ?_
  rcases h2 with ⟨g1, g2, g3⟩ | ⟨g1, f, g2, g3, g4⟩
  · subst g1; subst g2; subst g3
    refine ev_W.alen0 rfl ?_
    refine ev_W.fn rfl rfl ?_
    refine ev_W.fn rfl rfl ?_
    refine ev_W.fn rfl rfl ?_
    refine ev_W.fn rfl rfl ?_
    refine ev_W.obj rfl h1 rfl ?_
    refine ev_W.fn rfl rfl ?_
    refine ev_W.brT rfl rfl rfl ?_
    refine ev_W.fn rfl rfl ?_
    refine ev_W.fn rfl rfl ?_
    refine ev_W.fn rfl rfl ?_
    refine ev_W.fn rfl rfl ?_
    refine ev_W.newqN (n := 10) rfl (by decide) (by decide) ?_
    refine ev_W.fn rfl rfl ?_
    refine ev_W.putf (fs := [.ref z.1, .int (nI 0), .int mc]) rfl (by rw [ev_new_ne hah]; exact h1) rfl rfl rfl ?_
    refine ev_W.ret rfl rfl ?_
    refine ev_W.ret rfl rfl ?_
    exact k _ 10 (fun _ => none) mc ev_put_same (by rw [ev_put_ne (Ne.symm hah)]; exact ev_new_same) (fun i hi => absurd hi (Nat.not_lt_zero _)) (by decide) (by decide) (by decide) (fun b hb1 hb2 => by rw [ev_put_ne hb2, ev_new_ne hb1]) rfl rfl
  · have hcap : 2 ≤ cap := by
      rcases hc with hc | hc
      · exact absurd hc g1
      · exact hc
    refine ev_W.alenA (t := 3) (x := (cap, .inr (.inr (.inr (.inr f))))) rfl g1 g2 (by decide) ?_
    refine ev_W.fn rfl rfl ?_
    refine ev_W.fn rfl rfl ?_
    refine ev_W.brT rfl rfl (show nI 0 < nI cap from nI_lt (by omega) (by omega)) ?_
    refine ev_W.fn rfl rfl ?_
    refine ev_W.fn rfl rfl ?_
    refine ev_W.fn rfl rfl ?_
    refine ev_W.fn rfl rfl ?_
    refine ev_W.fn rfl rfl ?_
    refine ev_W.fn rfl rfl ?_
    refine ev_W.fn rfl rfl ?_
    have es : nI cap >>> ((1 : Int32) &&& 31) = nI (cap / 2) := by
      have k := pk_shrN (n := cap) (by omega) ((1 : Int32) &&& 31) 1 (by decide)
      rw [Nat.pow_one] at k
      exact k
    have ed : nI (xs.length + 1) - nI cap = nI 1 := by
      rw [hfull]
      have k := pk_sub (a := cap + 1) (b := cap) (by omega)
      rw [Nat.add_sub_cancel_left] at k
      exact k
    dsimp only
    rw [es, ed]
    refine ev_W.cl rfl rfl rfl rfl rfl ?_
    refine sp_JS_newLength z hcap (by omega) ?_
    refine ev_W.fn rfl rfl ?_
    refine ev_W.fn rfl rfl ?_
    refine ev_W.fn rfl rfl ?_
    refine ev_W.obj rfl h1 rfl ?_
    refine ev_W.fn rfl rfl ?_
    refine ev_W.cl rfl rfl rfl rfl rfl ?_
    refine sp_JA_copyOf z hh g2 (by omega) (by omega) (fun i hi y hy => hob y (List.mem_of_getElem? (i := i) (by rw [← g4 i (by omega)]; exact hy))) ?_
    refine ev_W.fn rfl rfl ?_
    refine ev_W.putf (fs := [.ref e, .int (nI xs.length), .int mc]) rfl (by rw [ev_put_ne hah, ev_new_ne hah]; exact h1) rfl rfl rfl ?_
    refine ev_W.ret rfl rfl ?_
    refine ev_W.ret rfl rfl ?_
    refine k _ (cap + cap / 2) (va_cpy f (fun _ => none) 0 0 cap) mc ev_put_same (by rw [ev_put_ne (Ne.symm hah)]; exact ev_put_same) (fun i hi => ?_) (by omega) (by omega) (by omega) (fun b hb1 hb2 => by rw [ev_put_ne hb2, ev_put_ne hb1, ev_new_ne hb1]) rfl rfl
    rw [pk_cpy_in (by omega) (by omega), Nat.sub_zero, Nat.zero_add]
    exact g4 i hi

-- add(v): the list gets one more; a new array may be made
theorem sp_A_add (z : Nat × Nat) {a e cap v ci : Nat} {xs : List Nat} {fs : List Value} {h : ev_H} {Q : ev_O → Prop} (hh : hp_ok z h) (ha : ls_at z h a e cap xs) (hob : ls_ob h xs) (hax : a ∉ xs) (hae : e ≠ a) (hv : h.2.2 v = some (.inr (ci, fs))) (hci : ci ∈ gw_cs) (hva : v ≠ a) (hc : e = z.1 ∨ 2 ≤ cap) (hc2 : cap ≤ 40000)
    (k : ∀ (h' : ev_H) (e' cap' : Nat), ls_at z h' a e' cap' (xs ++ [v]) → ((e' = e ∧ cap' = cap ∧ h'.1 = h.1 ∧ h'.2.1 = h.2.1) ∨ (e' = h.1 ∧ h'.1 = h.1 + 1 ∧ 2 ≤ cap' ∧ cap' ≤ cap + cap / 2 + 10 ∧ h'.2.1 = h.2.1 + cap' ∧ xs.length = cap)) → (∀ b, b ≠ e' → b ≠ a → h'.2.2 b = h.2.2 b) → hp_ok z h' → Q (some (.int 1), h')) : ev_M (mf_A_add z) [.ref a, .ref v] h Q := by
  have ha0 := ha
  obtain ⟨mc, h1, h2⟩ := ha
  have hal : a < h.1 := hh.1 a _ h1
  have haz : a ≠ z.1 := hh.nz h1
  have hvl : v < h.1 := hh.1 v _ hv
  have hgv : gw_ast 3 ci = true := by simp [gw_ast, hci]
  have hve : v ≠ e := by
    rcases h2 with ⟨g1, -, -⟩ | ⟨-, f, g2, -⟩
    · rw [g1]; exact hh.nz hv
    · intro q; rw [q, g2] at hv; cases hv
  have hP := hh.put (x := .inr (2, [.ref e, .int (nI xs.length), .int (mc + 1)])) hal haz
  refine ev_M.go rfl rfl ?_
  refine ev_W.fn rfl rfl ?_
  refine ev_W.fn rfl rfl ?_
  refine ev_W.obj rfl h1 rfl ?_
  refine ev_W.fn rfl rfl ?_
  refine ev_W.fn rfl rfl ?_
  refine ev_W.putf rfl h1 rfl rfl rfl ?_
  refine ev_W.fn rfl rfl ?_
  refine ev_W.fn rfl rfl ?_
  refine ev_W.fn rfl rfl ?_
  refine ev_W.obj rfl ev_put_same rfl ?_
  refine ev_W.fn rfl rfl ?_
  refine ev_W.obj rfl ev_put_same rfl ?_
  refine ev_W.clR rfl rfl rfl rfl rfl ev_put_same ?_
  refine ev_M.go rfl rfl ?_
  refine ev_W.fn rfl rfl ?_
  refine ev_W.fn rfl rfl ?_
  -- the heap behind the first write
  have hob1 : ls_ob (ev_put h a (.inr (2, [.ref e, .int (nI xs.length), .int (mc + 1)]))) xs := fun x hx => by
    obtain ⟨c, f, q1, q2⟩ := hob x hx
    exact ⟨c, f, by rw [ev_put_ne (fun q => hax (by rw [← q]; exact hx))]; exact q1, q2⟩
  have hat1 : ls_at z (ev_put h a (.inr (2, [.ref e, .int (nI xs.length), .int (mc + 1)]))) a e cap xs := by
    refine ⟨mc + 1, ev_put_same, ?_⟩
    rcases h2 with g | ⟨g1, f, g2, g3⟩
    · exact Or.inl g
    · exact Or.inr ⟨g1, f, by rw [ev_put_ne hae]; exact g2, g3⟩
  have grown : ∀ (L : ev_L), xs.length = cap → ev_W (mk_A_add2 z) (6, [some (.ref a), some (.ref v), some (.ref e), some (.int (nI xs.length))], [], ev_put h a (.inr (2, [.ref e, .int (nI xs.length), .int (mc + 1)]))) (fun o => ev_W (mk_A_add z) (23, [some (.ref a), some (.ref v)], o.1.toList ++ [], o.2) Q) := by
    intro L hfull
    refine ev_W.fn rfl rfl ?_
    refine ev_W.clR rfl rfl rfl rfl rfl ev_put_same ?_
    refine sp_A_grow z hP hat1 hfull hob1 hc hc2 (fun h' cap' f' mc' r1 r2 r3 r4 r5 r6 r7 r8 r9 => ?_)
    have hvh : v ≠ h.1 := Nat.ne_of_lt hvl
    have r1 : h'.2.2 a = some (.inr (2, [.ref h.1, .int (nI xs.length), .int mc'])) := r1
    have r2 : h'.2.2 h.1 = some (.inl (3, cap', .inr (.inr (.inr (.inr f'))))) := r2
    have r7 : ∀ b, b ≠ h.1 → b ≠ a → h'.2.2 b = (ev_put h a (.inr (2, [.ref e, .int (nI xs.length), .int (mc + 1)]))).2.2 b := r7
    have r8 : h'.1 = h.1 + 1 := r8
    have r9 : h'.2.1 = h.2.1 + cap' := r9
    show ev_W (mk_A_add2 z) (10, [some (.ref a), some (.ref v), some (.ref e), some (.int (nI xs.length))], [.ref h.1], h') _
    refine ev_W.fn rfl rfl ?_
    refine ev_W.fn rfl rfl ?_
    refine ev_W.fn rfl rfl ?_
    refine ev_W.fn rfl rfl ?_
    refine ev_W.aastN (ci := ci) (fs := fs) rfl r2 (by rw [r7 v hvh hva, ev_put_ne hva]; exact hv) hgv rfl r4 (by omega) ?_
    refine ev_W.fn rfl rfl ?_
    refine ev_W.fn rfl rfl ?_
    refine ev_W.fn rfl rfl ?_
    refine ev_W.fn rfl rfl ?_
    rw [nI_1]
    have hah : a ≠ h.1 := Nat.ne_of_lt hal
    refine ev_W.putf (fs := [.ref h.1, .int (nI xs.length), .int mc']) rfl (by rw [ev_put_ne hah]; exact r1) rfl rfl rfl ?_
    refine ev_W.ret rfl rfl ?_
    refine ev_W.fn rfl rfl ?_
    refine ev_W.zret rfl (Or.inr rfl) ?_
    refine k _ h.1 cap' ⟨mc', ?_, Or.inr ⟨(fun q => by have := hh.2.2; omega), va_up f' xs.length (some v), ?_, ?_, fun i hi => ?_⟩⟩ (Or.inr ⟨rfl, r8, r6, r5, r9, hfull⟩) (fun b hb1 hb2 => ?_) ?_
    · rw [ev_put_same, List.length_append]; rfl
    · rw [ev_put_ne (Ne.symm hah)]; exact ev_put_same
    · rw [List.length_append]; exact r4
    · rw [List.length_append, List.length_singleton] at hi
      by_cases hil : i = xs.length
      · rw [hil, va_up_self]; simp
      · rw [va_up_ne _ _ hil, r3 i (by omega), List.getElem?_append_left (by omega)]
    · rw [ev_put_ne hb2, ev_put_ne hb1, r7 b hb1 hb2, ev_put_ne hb2]
    · have hok' : hp_ok z h' := by
        refine ⟨fun b x hb => ?_, ?_, ?_⟩
        · rw [r8]
          by_cases q1 : b = h.1
          · rw [q1]; exact Nat.lt_succ_self _
          · by_cases q2 : b = a
            · rw [q2]; exact Nat.lt_succ_of_lt hal
            · rw [r7 b q1 q2, ev_put_ne q2] at hb
              exact Nat.lt_succ_of_lt (hh.1 b x hb)
        · rw [r7 z.1 (Nat.ne_of_lt hh.2.2) (Ne.symm haz), ev_put_ne (Ne.symm haz)]; exact hh.2.1
        · rw [r8]; exact Nat.lt_succ_of_lt hh.2.2
      refine hp_ok.put (hp_ok.put hok' ?_ ?_) ?_ haz
      · rw [r8]; exact Nat.lt_succ_self _
      · exact Nat.ne_of_gt hh.2.2
      · show a < h'.1; rw [r8]; exact Nat.lt_succ_of_lt hal
  rcases h2 with ⟨g1, g2, g3⟩ | ⟨g1, f, g2, g3, g4⟩
  · subst g1; subst g2; subst g3
    refine ev_W.alen0 rfl ?_
    refine ev_W.fn rfl rfl ?_
    exact grown [] rfl
  · refine ev_W.alenA (t := 3) (x := (cap, .inr (.inr (.inr (.inr f))))) rfl g1 (by rw [ev_put_ne hae]; exact g2) (by decide) ?_
    refine ev_W.br rfl rfl (fun hb => ?_) (fun hb => ?_)
    · have hlt : xs.length < cap := by
        rcases Nat.lt_or_ge xs.length cap with q | q
        · exact q
        · exact absurd (by rw [show xs.length = cap by omega]) hb
      refine ev_W.fn rfl rfl ?_
      refine ev_W.fn rfl rfl ?_
      refine ev_W.fn rfl rfl ?_
      refine ev_W.aastN (ci := ci) (fs := fs) (f := f) (t := 3) (n := cap) rfl (by rw [ev_put_ne hae]; exact g2) (by rw [ev_put_ne hva]; exact hv) hgv rfl hlt (by omega) ?_
      refine ev_W.fn rfl rfl ?_
      refine ev_W.fn rfl rfl ?_
      refine ev_W.fn rfl rfl ?_
      refine ev_W.fn rfl rfl ?_
      rw [nI_1]
      refine ev_W.putf (fs := [.ref e, .int (nI xs.length), .int (mc + 1)]) rfl (by rw [ev_put_ne (Ne.symm hae)]; exact ev_put_same) rfl rfl rfl ?_
      refine ev_W.ret rfl rfl ?_
      refine ev_W.fn rfl rfl ?_
      refine ev_W.zret rfl (Or.inr rfl) ?_
      refine k _ e cap ⟨mc + 1, ?_, Or.inr ⟨g1, va_up f xs.length (some v), ?_, ?_, fun i hi => ?_⟩⟩ (Or.inl ⟨rfl, rfl, rfl, rfl⟩) (fun b hb1 hb2 => ?_) ?_
      · rw [ev_put_same, List.length_append]; rfl
      · rw [ev_put_ne hae]; exact ev_put_same
      · rw [List.length_append]; exact hlt
      · rw [List.length_append, List.length_singleton] at hi
        by_cases hil : i = xs.length
        · rw [hil, va_up_self]; simp
        · rw [va_up_ne _ _ hil, g4 i (by omega), List.getElem?_append_left (by omega)]
      · rw [ev_put_ne hb2, ev_put_ne hb1, ev_put_ne hb2]
      · exact hp_ok.put (hp_ok.put hP (hh.1 e _ g2) g1) hal haz
    · have heq : xs.length = cap := by
        have hb' : nI xs.length = nI cap := Decidable.not_not.mp hb
        exact (nI_eq (by omega) (by omega)).mp hb'
      exact grown [] heq
