/-! The hub's picture when one of its lists is changed. -/
theorem hb_fx.keep {sz : Nat} {s s' : hb_S} {h h' : ev_H} (H : hb_fx sz s h) (hk : ∀ r, r < 46 → (∀ j, j < 19 → hb_ro j ≠ r) → h'.2.2 (sz + r) = h.2.2 (sz + r)) (e1 : s'.1 = s.1) (e2 : s'.2.1 = s.2.1) (e3 : s'.2.2.1 = s.2.2.1) : hb_fx sz s' h' := by
  obtain ⟨f0, f1, f2, f3, f4, f5, f6, f7, f8, f9, f10, f11, f12⟩ := H
  have nr : ∀ c, c < 3 → (∀ j, j < 19 → hb_ro j ≠ 3 + 7 * c) ∧ (∀ j, j < 19 → hb_ro j ≠ 6 + 7 * c) ∧ (∀ j, j < 19 → hb_ro j ≠ 8 + 7 * c) ∧ (∀ j, j < 19 → hb_ro j ≠ 9 + 7 * c) ∧ (∀ j, j < 19 → hb_ro j ≠ 28 + 6 * c) ∧ (∀ j, j < 19 → hb_ro j ≠ 29 + 6 * c) ∧ (∀ j, j < 19 → hb_ro j ≠ 33 + 6 * c) := by decide
  unfold hb_fx
  unfold sI sJ sX at *
  rw [e1, e2, e3]
  refine ⟨?_, ?_, ?_, ?_, ?_, ?_, fun c hc => ?_, fun c hc => ?_, fun c hc => ?_, fun c hc => ?_, fun c hc => ?_, fun c hc => ?_, fun c hc => ?_⟩
  · exact (hk 0 (by omega) (by decide)).trans f0
  · rw [hk 1 (by omega) (by decide)]; exact f1
  · rw [hk 2 (by omega) (by decide)]; exact f2
  · rw [hk 24 (by omega) (by decide)]; exact f3
  · rw [hk 25 (by omega) (by decide)]; exact f4
  · rw [hk 26 (by omega) (by decide)]; exact f5
  · rw [hk _ (by omega) (nr c hc).1]; exact f6 c hc
  · rw [hk _ (by omega) (nr c hc).2.1]; exact f7 c hc
  · rw [hk _ (by omega) (nr c hc).2.2.1]; exact f8 c hc
  · rw [hk _ (by omega) (nr c hc).2.2.2.1]; exact f9 c hc
  · rw [hk _ (by omega) (nr c hc).2.2.2.2.1]; exact f10 c hc
  · rw [hk _ (by omega) (nr c hc).2.2.2.2.2.1]; exact f11 c hc
  · rw [hk _ (by omega) (nr c hc).2.2.2.2.2.2]; exact f12 c hc
theorem hb_ro_inj : ∀ j, j < 19 → ∀ i, i < 19 → hb_ro i = hb_ro j → i = j := by decide
theorem hb_el.cls {own : Nat → Nat} {dyn j : Nat} {h : ev_H} {a : Nat} {v : hb_Ev} (H : hb_el own dyn j h a v) : ∃ (ci : Nat) (fs : List Value), h.2.2 a = some (.inr (ci, fs)) ∧ ci ∈ gw_cs := by
  obtain ⟨-, H⟩ := H
  rcases v with p | m | s | x
  · exact ⟨_, _, H.1, by decide⟩
  · exact ⟨_, _, H.1, by decide⟩
  · exact ⟨_, _, H.1, by decide⟩
  · obtain ⟨-, ma, q, -⟩ := H
    exact ⟨_, _, q, by decide⟩
theorem hb_ls.ob {z : Nat × Nat} {sz dyn : Nat} {G : hb_G} {X : Nat → List hb_Ev} {h : ev_H} {j : Nat} (H : hb_ls z sz dyn G X h j) : ls_ob h (G.2.1 j) := fun x hx => by
  obtain ⟨b, -, hb⟩ := hb_f2_mem H.2.2.2.1 hx
  exact hb.cls
theorem hb_ls.ge {z : Nat × Nat} {sz dyn : Nat} {G : hb_G} {X : Nat → List hb_Ev} {h : ev_H} {j : Nat} (H : hb_ls z sz dyn G X h j) : ∀ x ∈ G.2.1 j, dyn ≤ x := fun x hx => by
  obtain ⟨b, -, hb⟩ := hb_f2_mem H.2.2.2.1 hx
  exact hb.1
def hb_same (s s' : hb_S) : Prop := s'.1 = s.1 ∧ s'.2.1 = s.2.1 ∧ s'.2.2.1 = s.2.2.1
set_option maxHeartbeats 1000000 in
theorem hb_R.add {z : Nat × Nat} {sz dyn : Nat} {mu : Nat → Option ev_E} {G : hb_G} {n1 n2 j v col : Nat} {ev : hb_Ev} {s : hb_S} {h : ev_H} {Q : ev_O → Prop} (R : hb_R z sz dyn mu G n1 n2 s h) (hj : j < 19) (hlen : (hb_X s j).length ≤ 20) (hv : hb_el (va_up G.1 v col) dyn j h v ev) (hco : (G.1 v = 0 ∧ col = 0) ∨ (G.1 v = 99 ∧ col = 100 + j)) (hnd : ((6 ≤ j ∧ j < 12) ∨ (15 ≤ j ∧ j < 18)) → G.1 v = 99)
    (k : ∀ (G' : hb_G) (h' : ev_H), (∀ s' : hb_S, hb_same s s' → hb_X s' j = hb_X s j ++ [ev] → (∀ i, i < 19 → i ≠ j → hb_X s' i = hb_X s i) → hb_R z sz dyn mu G' (n1 + 1) (n2 + 40) s' h') → hb_E dyn G h G' h' → h'.2.2 v = h.2.2 v → Q (some (.int 1), h')) : ev_M (mf_A_add z) [.ref (sz + hb_ro j), .ref v] h Q := by
  obtain ⟨r1, r2, r3, r4, r5, r6, r7, r8, r9⟩ := R
  have Hj := r9 j hj
  obtain ⟨ci, fs, hcl, hci⟩ := hv.cls
  have hvd : dyn ≤ v := hv.1
  have hvl : v < h.1 := r1.1 v _ hcl
  have hro := hb_ro_lt j hj
  have hel : G.2.2.1 j = z.1 ∨ (dyn ≤ G.2.2.1 j ∧ G.1 (G.2.2.1 j) = 1 + j ∧ 2 ≤ G.2.2.2 j) := Hj.2.1
  have hll : (G.2.1 j).length = (hb_X s j).length := hb_f2_len Hj.2.2.2.1
  refine sp_A_add z r1 Hj.1 Hj.ob (fun hm => by have := Hj.ge _ hm; omega) (by rcases hel with e | ⟨e, -⟩ <;> omega) hcl hci (by omega) (hel.imp id (fun q => q.2.2)) (by have := Hj.2.2.1; omega) (fun h' e' cap' q1 q2 q3 q4 => ?_)
  have hcap' : cap' ≤ 40 := by
    have := Hj.2.2.1
    rcases q2 with ⟨-, e, -⟩ | ⟨-, -, -, e, -, e2⟩ <;> omega
  have hh1 : h.1 ≤ h'.1 ∧ h'.1 ≤ h.1 + 1 := by rcases q2 with ⟨-, -, e, -⟩ | ⟨-, e, -⟩ <;> omega
  have hh2 : h'.2.1 ≤ h.2.1 + 40 := by rcases q2 with ⟨-, -, -, e⟩ | ⟨-, -, -, -, e, -⟩ <;> omega
  -- the array's place: new, or the list's own
  have hen : ∀ b, dyn ≤ b → b < h.1 → (∃ i, i < 19 ∧ i ≠ j ∧ (G.1 b = 0 ∨ G.1 b = 1 + i ∨ G.1 b = 100 + i)) → b ≠ e' := by
    intro b hb1 hb2 ⟨i, hi, hij, hcol⟩ he
    rcases q2 with ⟨e, -⟩ | ⟨e, -⟩
    · rw [he, e] at hcol
      rcases hel with e1 | ⟨-, e1, -⟩
      · have := r1.2.2; omega
      · rw [e1] at hcol; omega
    · omega
  have hel' : dyn ≤ e' ∧ 2 ≤ cap' := by
    rcases q2 with ⟨e, e2, -⟩ | ⟨e, -, e2, -⟩
    · rcases hel with e1 | ⟨e1, -, e3⟩
      · exfalso
        obtain ⟨mc, -, q⟩ := q1
        rcases q with ⟨-, q, -⟩ | ⟨q, -⟩
        · simp at q
        · exact q (by omega)
      · omega
    · omega
  have hev : e' ≠ v := by
    intro q
    rcases q2 with ⟨e, -⟩ | ⟨e, -⟩
    · rcases hel with e1 | ⟨-, e1, -⟩
      · omega
      · rw [← e, q] at e1; rcases hco with ⟨c, -⟩ | ⟨c, -⟩ <;> omega
    · omega
  have hfr : ∀ b, b ≠ e' → b ≠ sz + hb_ro j → h'.2.2 b = h.2.2 b := q3
  have h0e : ∀ b, dyn ≤ b → b < h.1 → G.1 b = 0 → b ≠ e' := by
    intro b hb1 hb2 hcol he
    rcases q2 with ⟨e, -⟩ | ⟨e, -⟩
    · rw [he, e] at hcol
      rcases hel with e1 | ⟨-, e1, -⟩
      · have := r1.2.2; omega
      · rw [e1] at hcol; omega
    · omega
  have own0 : ∀ b, b ≠ e' → (b = v → G.1 v = col) → va_up (va_up G.1 e' (1 + j)) v col b = G.1 b := by
    intro b hb hbv
    by_cases hq : b = v
    · rw [hq, va_up_self]; exact (hbv hq).symm
    · rw [va_up_ne _ _ hq, va_up_ne _ _ hb]
  refine k (va_up (va_up G.1 e' (1 + j)) v col, va_up G.2.1 j (G.2.1 j ++ [v]), va_up G.2.2.1 j e', va_up G.2.2.2 j cap') h' (fun s' hs hX hX' => ?_) ⟨hh1.1, fun b hb hl h0 => ⟨?_, hfr b (h0e b hb hl h0) (by omega)⟩⟩ (hfr v (Ne.symm hev) (by omega))
  · refine ⟨q4, r2, r3, by omega, by omega, by omega, fun b hb1 hb2 => ?_, ?_, fun i hi => ?_⟩
    · rw [hfr b (by omega) (by omega)]; exact r7 b hb1 hb2
    · exact r8.keep (fun r hr hrl => hfr _ (by omega) (fun q => hrl j hj (by omega))) hs.1 hs.2.1 hs.2.2
    · by_cases hij : i = j
      · subst hij
        unfold hb_ls
        dsimp only
        rw [va_up_self, va_up_self, va_up_self, hX]
        refine ⟨q1, Or.inr ⟨hel'.1, ?_, hel'.2⟩, hcap', ?_, fun hn => ?_⟩
        · rw [va_up_ne _ _ hev, va_up_self]
        · have hjel : ∀ b, dyn ≤ b → b < h.1 → (G.1 b = 0 ∨ G.1 b = 100 + i) → b ≠ e' := by
            intro b hb1 hb2 hcol he
            rcases q2 with ⟨e, -⟩ | ⟨e, -⟩
            · rw [he, e] at hcol
              rcases hel with e1 | ⟨-, e1, -⟩
              · have := r1.2.2; omega
              · rw [e1] at hcol; omega
            · omega
          refine hb_f2_app (hb_f2_mono Hj.2.2.2.1 (fun a b ha _ H => H.keep r1.1 (fun b hb1 hb2 hcol => ?_))) ?_
          · refine ⟨hfr b (hjel b hb1 hb2 hcol) (by omega), own0 b (hjel b hb1 hb2 hcol) (fun e => ?_)⟩
            rw [e] at hcol
            rcases hco with ⟨c1, c2⟩ | ⟨c1, -⟩ <;> omega
          · refine hv.keep r1.1 (fun b hb1 hb2 hcol => ?_)
            by_cases hbv : b = v
            · rw [hbv, va_up_self, va_up_self]
              exact ⟨hfr v (Ne.symm hev) (by omega), rfl⟩
            · rw [va_up_ne _ _ hbv] at hcol
              have hbe := hjel b hb1 hb2 hcol
              rw [va_up_ne _ _ hbv, va_up_ne _ _ hbv, va_up_ne _ _ hbe]
              exact ⟨hfr b hbe (by omega), rfl⟩
        · refine List.nodup_append.mpr ⟨Hj.2.2.2.2 hn, by simp, fun a ha b hb => ?_⟩
          obtain rfl := List.mem_singleton.mp hb
          intro e
          subst e
          obtain ⟨y, -, hy⟩ := hb_f2_mem Hj.2.2.2.1 ha
          have h99 := hnd hn
          obtain ⟨-, hy⟩ := hy
          rcases y with y | y | y | y
          · have := hy.2; omega
          · have := hy.2; omega
          · have := hy.2; omega
          · have := hy.1; omega
      · refine (r9 i hi).keep r1.1 (hfr _ (by have := hb_ro_lt i hi; omega) (fun q => hij (hb_ro_inj j hj i hi (by omega)))) (fun b hb1 hb2 hcol => ?_) (va_up_ne _ _ hij) (va_up_ne _ _ hij) (va_up_ne _ _ hij) (hX' i hi hij)
        have hbe := hen b hb1 hb2 ⟨i, hi, hij, hcol⟩
        refine ⟨hfr b hbe (by omega), own0 b hbe (fun e => ?_)⟩
        rw [e] at hcol
        rcases hco with ⟨c1, c2⟩ | ⟨c1, -⟩ <;> omega
  · dsimp only
    rw [own0 b (h0e b hb hl h0) (fun e => by rw [e] at h0; rcases hco with ⟨c1, c2⟩ | ⟨c1, -⟩ <;> omega)]
    exact h0
