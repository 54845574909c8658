/-! Elements of the hub's lists that are written; which list is which. -/
abbrev pe (x : hb_Pa) : hb_Ev := .inr (.inr (.inr x))
abbrev se (x : hb_Sb) : hb_Ev := .inr (.inr (.inl x))
abbrev me (x : hb_Ms) : hb_Ev := .inr (.inl x)
abbrev ne (x : hb_Pk) : hb_Ev := .inl x
def hb_pj (l : Nat) : Nat := if l < 3 then 6 + l else 12 + l
def hb_mj (l : Nat) : Nat := if l < 3 then 12 + l else 18
theorem XN_self (s : hb_S) {l : Nat} (x : List hb_Pk) (hl : l < 6) : hb_X (tN s l x) l = x.map ne := by
  simp only [hb_X, if_pos hl, sN, tN, va_up_self]
theorem XN_ne (s : hb_S) {l j : Nat} (x : List hb_Pk) (h : j ≠ l) : hb_X (tN s l x) j = hb_X s j := by
  simp only [hb_X, sN, sP, sB, sM, tN, va_up_ne _ _ h]
theorem XN_at (s : hb_S) {l : Nat} (hl : l < 6) : hb_X s l = (sN s l).map ne := by
  simp only [hb_X, if_pos hl]
theorem XP_at (s : hb_S) {l : Nat} (hl : l < 6) : hb_X s (hb_pj l) = (sP s l).map pe := by
  rcases (show l = 0 ∨ l = 1 ∨ l = 2 ∨ l = 3 ∨ l = 4 ∨ l = 5 by omega) with rfl | rfl | rfl | rfl | rfl | rfl <;> rfl
theorem XP_self (s : hb_S) {l : Nat} (x : List hb_Pa) (hl : l < 6) : hb_X (tP s l x) (hb_pj l) = x.map pe := by
  rw [XP_at _ hl]; simp only [sP, tP, va_up_self]
theorem XP_ne (s : hb_S) {l j : Nat} (x : List hb_Pa) (hl : l < 6) (hj : j < 19) (h : j ≠ hb_pj l) : hb_X (tP s l x) j = hb_X s j := by
  have hq : (if l < 3 then 6 + l else 12 + l) = hb_pj l := rfl
  rw [← hq] at h
  simp only [hb_X, sN, sP, sB, sM, tP]
  by_cases h6 : j < 6
  · simp only [if_pos h6]
  · by_cases h9 : j < 9
    · simp only [if_neg h6, if_pos h9]
      rw [va_up_ne _ _ (by split at h <;> omega)]
    · by_cases h12 : j < 12
      · simp only [if_neg h6, if_neg h9, if_pos h12]
      · by_cases h15 : j < 15
        · simp only [if_neg h6, if_neg h9, if_neg h12, if_pos h15]
        · by_cases h18 : j < 18
          · simp only [if_neg h6, if_neg h9, if_neg h12, if_neg h15, if_pos h18]
            rw [va_up_ne _ _ (by split at h <;> omega)]
          · simp only [if_neg h6, if_neg h9, if_neg h12, if_neg h15, if_neg h18]
theorem XB_at (s : hb_S) {l : Nat} (hl : l < 3) : hb_X s (9 + l) = (sB s l).map se := by
  rcases (show l = 0 ∨ l = 1 ∨ l = 2 by omega) with rfl | rfl | rfl <;> rfl
theorem XB_self (s : hb_S) {l : Nat} (x : List hb_Sb) (hl : l < 3) : hb_X (tB s l x) (9 + l) = x.map se := by
  rw [XB_at _ hl]; simp only [sB, tB, va_up_self]
theorem XB_ne (s : hb_S) {l j : Nat} (x : List hb_Sb) (hl : l < 3) (h : j ≠ 9 + l) : hb_X (tB s l x) j = hb_X s j := by
  simp only [hb_X, sN, sP, sB, sM, tB]
  by_cases h12 : j < 12
  · by_cases h9 : j < 9
    · simp only [if_pos h9]
    · rw [va_up_ne _ _ (by omega)]
  · simp only [if_neg h12]
theorem XM_at (s : hb_S) {l : Nat} (hl : l < 4) : hb_X s (hb_mj l) = (sM s l).map me := by
  rcases (show l = 0 ∨ l = 1 ∨ l = 2 ∨ l = 3 by omega) with rfl | rfl | rfl | rfl <;> rfl
theorem XM_self (s : hb_S) {l : Nat} (x : List hb_Ms) (hl : l < 4) : hb_X (tM s l x) (hb_mj l) = x.map me := by
  rw [XM_at _ hl]; simp only [sM, tM, va_up_self]
theorem XM_ne (s : hb_S) {l j : Nat} (x : List hb_Ms) (hl : l < 4) (hj : j < 19) (h : j ≠ hb_mj l) : hb_X (tM s l x) j = hb_X s j := by
  have hq : (if l < 3 then 12 + l else 18) = hb_mj l := rfl
  rw [← hq] at h
  simp only [hb_X, sN, sP, sB, sM, tM]
  by_cases h6 : j < 6
  · simp only [if_pos h6]
  · by_cases h9 : j < 9
    · simp only [if_neg h6, if_pos h9]
    · by_cases h12 : j < 12
      · simp only [if_neg h6, if_neg h9, if_pos h12]
      · by_cases h15 : j < 15
        · simp only [if_neg h6, if_neg h9, if_neg h12, if_pos h15]
          rw [va_up_ne _ _ (by split at h <;> omega)]
        · by_cases h18 : j < 18
          · simp only [if_neg h6, if_neg h9, if_neg h12, if_neg h15, if_pos h18]
          · simp only [if_neg h6, if_neg h9, if_neg h12, if_neg h15, if_neg h18]
            rw [va_up_ne _ _ (by split at h <;> omega)]
theorem hb_f2_upd {P P' : Nat → hb_Ev → Prop} {a : Nat} {ev' : hb_Ev} (hP : ∀ a' b, a' ≠ a → P a' b → P' a' b) (hn : P' a ev') : ∀ {l : List Nat} {t : List hb_Ev} {i : Nat}, hb_f2 P l t → l.Nodup → l[i]? = some a → hb_f2 P' l (t.set i ev') := by
  have keep : ∀ {l : List Nat} {t : List hb_Ev}, hb_f2 P l t → a ∉ l → hb_f2 P' l t := fun h hq => hb_f2_mono h (fun a' b ha _ H => hP a' b (fun e => hq (by rw [← e]; exact ha)) H)
  intro l
  induction l with
  | nil => intro t i h _ hi; simp at hi
  | cons x r ih =>
    intro t i h hd hi
    cases t with
    | nil => exact h.elim
    | cons y t =>
      rw [List.nodup_cons] at hd
      cases i with
      | zero =>
        simp at hi
        subst hi
        exact ⟨hn, keep h.2 hd.1⟩
      | succ i =>
        simp only [List.getElem?_cons_succ] at hi
        refine ⟨hP x y (fun e => hd.1 (by rw [e]; exact List.mem_of_getElem? hi)) h.1, ih h.2 hd.2 hi⟩
theorem hb_el.keep1 {own : Nat → Nat} {dyn j : Nat} {h h' : ev_H} {a : Nat} {v : hb_Ev} (hh : ∀ b x, h.2.2 b = some x → b < h.1) (H : hb_el own dyn j h a v) (h1 : h'.2.2 a = h.2.2 a) (h2 : ∀ b, dyn ≤ b → b < h.1 → own b = 0 → h'.2.2 b = h.2.2 b) : hb_el own dyn j h' a v := by
  obtain ⟨h0, H⟩ := H
  refine ⟨h0, ?_⟩
  rcases v with p | m | s | x
  · exact ⟨h1.trans H.1, H.2⟩
  · exact ⟨h1.trans H.1, H.2⟩
  · exact ⟨h1.trans H.1, H.2⟩
  · obtain ⟨q1, ma, q2, q3, q4, q5⟩ := H
    exact ⟨q1, ma, h1.trans q2, q3, q4, (h2 ma q3 (hh ma _ q5) q4).trans q5⟩
section EL
variable {z : Nat × Nat} {sz dyn : Nat} {mu : Nat → Option ev_E} {G : hb_G} {n1 n2 j i a : Nat} {s : hb_S} {h : ev_H}
theorem hb_R.elp {ev ev' : hb_Ev} (R : hb_R z sz dyn mu G n1 n2 s h) (hj : j < 19) (hjn : (6 ≤ j ∧ j < 12) ∨ (15 ≤ j ∧ j < 18)) (hi : (hb_X s j)[i]? = some ev) (ha : (G.2.1 j)[i]? = some a) (hown : G.1 a = 100 + j) (x : ev_E) (hnew : hb_el G.1 dyn j (ev_put h a x) a ev') (s' : hb_S) (hs : hb_same s s') (hX : hb_X s' j = (hb_X s j).set i ev') (hX' : ∀ i, i < 19 → i ≠ j → hb_X s' i = hb_X s i) : hb_R z sz dyn mu G n1 n2 s' (ev_put h a x) := by
  obtain ⟨r1, r2, r3, r4, r5, r6, r7, r8, r9⟩ := R
  have Hj := r9 j hj
  have hd : dyn ≤ a := Hj.ge a (List.mem_of_getElem? ha)
  obtain ⟨ci, fs, hcl, -⟩ := Hj.ob a (List.mem_of_getElem? ha)
  have hal : a < h.1 := r1.1 a _ hcl
  have hz : (ev_put h a x).1 = h.1 := rfl
  have hz2 : (ev_put h a x).2.1 = h.2.1 := rfl
  refine ⟨r1.put hal (by omega), r2, r3, by omega, by omega, by omega, fun b h1 h2 => (ev_put_ne (by omega)).trans (r7 b h1 h2), r8.keep (fun r hr _ => ev_put_ne (by omega)) hs.1 hs.2.1 hs.2.2, fun k hk => ?_⟩
  have hro := hb_ro_lt k hk
  by_cases hkj : k = j
  · subst hkj
    obtain ⟨q1, q2, q3, q4, q5⟩ := Hj
    unfold hb_ls
    rw [hX]
    refine ⟨q1.keep (ev_put_ne (by omega)) (fun hne => ev_put_ne (fun e => ?_)), q2, q3, hb_f2_upd (fun a' b hne H => H.keep1 r1.1 (ev_put_ne hne) (fun b hb1 hb2 hcol => ev_put_ne (fun e => ?_))) hnew q4 (q5 hjn) ha, q5⟩
    · rcases q2 with e2 | ⟨-, e2, -⟩
      · exact hne e2
      · rw [e, hown] at e2; omega
    · rw [e, hown] at hcol; omega
  · refine (r9 k hk).keep r1.1 (ev_put_ne (by omega)) (fun b hb1 hb2 hcol => ⟨ev_put_ne (fun e => ?_), rfl⟩) rfl rfl rfl (hX' k hk hkj)
    rw [e, hown] at hcol
    omega
-- a parcel of list l gets a stage and an id
theorem hb_R.par {l : Nat} {x : hb_Pa} (R : hb_R z sz dyn mu G n1 n2 s h) (hl : l < 6) (hi : (sP s l)[i]? = some x) (ha : (G.2.1 (hb_pj l))[i]? = some a) {ma : Nat} (hcell : h.2.2 a = some (.inr (10, [.ref ma, .int x.2.1, .int x.2.2]))) (st id : Int32) : hb_R z sz dyn mu G n1 n2 (tP s l ((sP s l).set i (x.1, st, id))) (ev_put h a (.inr (10, [.ref ma, .int st, .int id]))) := by
  have hpj : hb_pj l < 19 ∧ ((6 ≤ hb_pj l ∧ hb_pj l < 12) ∨ (15 ≤ hb_pj l ∧ hb_pj l < 18)) := by unfold hb_pj; split <;> omega
  have hi' : (hb_X s (hb_pj l))[i]? = some (pe x) := by rw [XP_at s hl, List.getElem?_map, hi]; rfl
  obtain ⟨a', ha', hel⟩ := hb_f2_get (R.2.2.2.2.2.2.2.2 _ hpj.1).2.2.2.1 hi'
  cases ha.symm.trans ha'
  obtain ⟨hd, hown, ma', q2, q3, q4, q5⟩ := hel
  rw [hcell] at q2
  cases q2
  have hne : ma ≠ a := fun e => by rw [e, hown] at q4; omega
  refine R.elp (ev' := pe (x.1, st, id)) hpj.1 hpj.2 hi' ha hown _ ⟨hd, hown, ma, ev_put_same, q3, q4, (ev_put_ne hne).trans q5⟩ _ ⟨rfl, rfl, rfl⟩ ?_ (fun k hk hkj => XP_ne s _ hl hk hkj)
  rw [XP_self s _ hl, XP_at s hl, List.map_set]
theorem hb_E.own {x : ev_E} (hc : G.1 a ≠ 0) : hb_E dyn G h G (ev_put h a x) := ⟨Nat.le_refl _, fun b _ _ h0 => ⟨h0, ev_put_ne (fun e => hc (by rw [← e]; exact h0))⟩⟩
-- a subscription of list c gets a quality and a mark
theorem hb_R.sub {c : Nat} {x : hb_Sb} (R : hb_R z sz dyn mu G n1 n2 s h) (hc : c < 3) (hi : (sB s c)[i]? = some x) (ha : (G.2.1 (9 + c))[i]? = some a) (y : hb_Sb) : hb_R z sz dyn mu G n1 n2 (tB s c ((sB s c).set i y)) (ev_put h a (.inr (11, hb_sbF y))) := by
  have hi' : (hb_X s (9 + c))[i]? = some (se x) := by rw [XB_at s hc, List.getElem?_map, hi]; rfl
  obtain ⟨a', ha', hel⟩ := hb_f2_get (R.2.2.2.2.2.2.2.2 _ (by omega)).2.2.2.1 hi'
  cases ha.symm.trans ha'
  obtain ⟨hd, q2, hown⟩ := hel
  refine R.elp (ev' := se y) (by omega) (by omega) hi' ha hown _ ⟨hd, ev_put_same, hown⟩ _ ⟨rfl, rfl, rfl⟩ ?_ (fun k hk hkj => XB_ne s _ hc hkj)
  rw [XB_self s _ hc, XB_at s hc, List.map_set]
end EL
