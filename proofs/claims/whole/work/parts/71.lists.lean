/-! The hub's lists by kind: lines (n), parcels (p), subscriptions (b), messages (m) (laid by wip/whole/p71.py). -/
def su_at (dyn : Nat) (G : hb_G) (h : ev_H) (c a : Nat) (x : hb_Sb) : Prop := h.2.2 a = some (.inr (11, hb_sbF x)) ∧ G.1 a = 100 + (9 + c) ∧ dyn ≤ a
theorem hb_mj_lt {l : Nat} (hl : l < 4) : hb_mj l < 19 := by unfold hb_mj; split <;> omega
theorem bl_lt {l : Nat} (hl : l < 3) : 9 + l < 19 := by omega
theorem nl_lt {l : Nat} (hl : l < 6) : l < 19 := by omega
def nw_at (dyn : Nat) (G : hb_G) (h : ev_H) (a ci : Nat) (fs : List Value) : Prop := h.2.2 a = some (.inr (ci, fs)) ∧ G.1 a = 99 ∧ dyn ≤ a
section TL
variable {z : Nat × Nat} {sz dyn : Nat} {mu : Nat → Option ev_E} {G : hb_G} {n1 n2 l : Nat} {s : hb_S} {h : ev_H} {Q : ev_O → Prop}
theorem hb_R.nlen (R : hb_R z sz dyn mu G n1 n2 s h) (hl : l < 6) : (sN s l).length ≤ 40 := by
  have := R.cap (nl_lt hl); rw [XN_at s hl, List.length_map] at this; exact this
theorem hb_R.nsize (R : hb_R z sz dyn mu G n1 n2 s h) (hl : l < 6) (k : Q (some (.int (nI (sN s l).length)), h)) : ev_M (mf_A_size z) [.ref (sz + hb_ro l)] h Q := by
  refine R.size (nl_lt hl) ?_
  rw [XN_at s hl, List.length_map]; exact k
theorem hb_R.nempty (R : hb_R z sz dyn mu G n1 n2 s h) (hl : l < 6) (k : Q (some (.int (zb (sN s l).isEmpty)), h)) : ev_M (mf_A_isEmpty z) [.ref (sz + hb_ro l)] h Q := by
  refine R.empty (nl_lt hl) ?_
  rw [XN_at s hl, List.isEmpty_map]; exact k
theorem hb_R.nclr (R : hb_R z sz dyn mu G n1 n2 s h) (hl : l < 6) (k : ∀ (G' : hb_G) (h' : ev_H), hb_R z sz dyn mu G' n1 n2 (tN s l []) h' → hb_E dyn G h G' h' → Q (none, h')) : ev_M (mf_A_clear z) [.ref (sz + hb_ro l)] h Q := by
  refine R.clr (nl_lt hl) (fun G' h' _ hR hE => k G' h' (hR _ ⟨rfl, rfl, rfl⟩ ?_ (fun i hi hij => XN_ne s _ hij)) hE)
  rw [XN_self s _ hl]; rfl
theorem hb_R.nget {i : Nat} {x : hb_Pk} (R : hb_R z sz dyn mu G n1 n2 s h) (hl : l < 6) (hi : (sN s l)[i]? = some x) (k : ∀ a, pk_at dyn G h a x → Q (some (.ref a), h)) : ev_M (mf_A_get z) [.ref (sz + hb_ro l), .int (nI i)] h Q := by
  refine R.get (nl_lt hl) (ev := ne x) (by rw [XN_at s hl, List.getElem?_map, hi]; rfl) (fun a ha hel => ?_)
  exact k a ⟨hel.2.1, hel.2.2, hel.1⟩
theorem hb_R.nrem {i : Nat} {x : hb_Pk} (R : hb_R z sz dyn mu G n1 n2 s h) (hl : l < 6) (hi : (sN s l)[i]? = some x) (k : ∀ (G' : hb_G) (h' : ev_H) (a : Nat), pk_at dyn G' h' a x → hb_R z sz dyn mu G' n1 n2 (tN s l ((sN s l).eraseIdx i)) h' → hb_E dyn G h G' h' → Q (some (.ref a), h')) : ev_M (mf_A_remove z) [.ref (sz + hb_ro l), .int (nI i)] h Q := by
  refine R.rem (nl_lt hl) (ev := ne x) (by rw [XN_at s hl, List.getElem?_map, hi]; rfl) (fun G' h' a ha hel hG hR hE _ => k G' h' a ⟨hel.2.1, by rw [hG]; exact hel.2.2, hel.1⟩ (hR _ ⟨rfl, rfl, rfl⟩ ?_ (fun i hi hij => XN_ne s _ hij)) hE)
  rw [XN_self s _ hl, XN_at s hl, map_eIdx]
theorem hb_R.nadd {x : hb_Pk} {a : Nat} (R : hb_R z sz dyn mu G n1 n2 s h) (hl : l < 6) (hlen : (sN s l).length ≤ 20) (hp : pk_at dyn G h a x) (k : ∀ (G' : hb_G) (h' : ev_H), hb_R z sz dyn mu G' (n1 + 1) (n2 + 40) (tN s l (sN s l ++ [x])) h' → hb_E dyn G h G' h' → Q (some (.int 1), h')) : ev_M (mf_A_add z) [.ref (sz + hb_ro l), .ref a] h Q := by
  refine R.add (ev := ne x) (col := 0) (nl_lt hl) (by rw [XN_at s hl, List.length_map]; exact hlen) ⟨hp.2.2, hp.1, va_up_self _ _ _⟩ (Or.inl ⟨hp.2.1, rfl⟩) (fun q => ?_) (fun G' h' hR hE _ => k G' h' (hR _ ⟨rfl, rfl, rfl⟩ ?_ (fun i hi hij => XN_ne s _ hij)) hE)
  · exfalso ; omega
  · rw [XN_self s _ hl, XN_at s hl, List.map_append]; rfl
theorem hb_R.pempty (R : hb_R z sz dyn mu G n1 n2 s h) (hl : l < 6) (k : Q (some (.int (zb (sP s l).isEmpty)), h)) : ev_M (mf_A_isEmpty z) [.ref (sz + hb_ro (hb_pj l))] h Q := by
  refine R.empty (hb_pj_lt hl) ?_
  rw [XP_at s hl, List.isEmpty_map]; exact k
theorem hb_R.pclr (R : hb_R z sz dyn mu G n1 n2 s h) (hl : l < 6) (k : ∀ (G' : hb_G) (h' : ev_H), hb_R z sz dyn mu G' n1 n2 (tP s l []) h' → hb_E dyn G h G' h' → Q (none, h')) : ev_M (mf_A_clear z) [.ref (sz + hb_ro (hb_pj l))] h Q := by
  refine R.clr (hb_pj_lt hl) (fun G' h' _ hR hE => k G' h' (hR _ ⟨rfl, rfl, rfl⟩ ?_ (fun i hi hij => XP_ne s _ hl hi hij)) hE)
  rw [XP_self s _ hl]; rfl
theorem hb_R.blen (R : hb_R z sz dyn mu G n1 n2 s h) (hl : l < 3) : (sB s l).length ≤ 40 := by
  have := R.cap (bl_lt hl); rw [XB_at s hl, List.length_map] at this; exact this
theorem hb_R.bsize (R : hb_R z sz dyn mu G n1 n2 s h) (hl : l < 3) (k : Q (some (.int (nI (sB s l).length)), h)) : ev_M (mf_A_size z) [.ref (sz + hb_ro (9 + l))] h Q := by
  refine R.size (bl_lt hl) ?_
  rw [XB_at s hl, List.length_map]; exact k
theorem hb_R.bempty (R : hb_R z sz dyn mu G n1 n2 s h) (hl : l < 3) (k : Q (some (.int (zb (sB s l).isEmpty)), h)) : ev_M (mf_A_isEmpty z) [.ref (sz + hb_ro (9 + l))] h Q := by
  refine R.empty (bl_lt hl) ?_
  rw [XB_at s hl, List.isEmpty_map]; exact k
theorem hb_R.bclr (R : hb_R z sz dyn mu G n1 n2 s h) (hl : l < 3) (k : ∀ (G' : hb_G) (h' : ev_H), hb_R z sz dyn mu G' n1 n2 (tB s l []) h' → hb_E dyn G h G' h' → Q (none, h')) : ev_M (mf_A_clear z) [.ref (sz + hb_ro (9 + l))] h Q := by
  refine R.clr (bl_lt hl) (fun G' h' _ hR hE => k G' h' (hR _ ⟨rfl, rfl, rfl⟩ ?_ (fun i hi hij => XB_ne s _ hl hij)) hE)
  rw [XB_self s _ hl]; rfl
theorem hb_R.bget {i : Nat} {x : hb_Sb} (R : hb_R z sz dyn mu G n1 n2 s h) (hl : l < 3) (hi : (sB s l)[i]? = some x) (k : ∀ a, (G.2.1 (9 + l))[i]? = some a → su_at dyn G h l a x → Q (some (.ref a), h)) : ev_M (mf_A_get z) [.ref (sz + hb_ro (9 + l)), .int (nI i)] h Q := by
  refine R.get (bl_lt hl) (ev := se x) (by rw [XB_at s hl, List.getElem?_map, hi]; rfl) (fun a ha hel => ?_)
  exact k a ha ⟨hel.2.1, hel.2.2, hel.1⟩
theorem hb_R.brem {i : Nat} {x : hb_Sb} (R : hb_R z sz dyn mu G n1 n2 s h) (hl : l < 3) (hi : (sB s l)[i]? = some x) (k : ∀ (G' : hb_G) (h' : ev_H) (a : Nat), hb_R z sz dyn mu G' n1 n2 (tB s l ((sB s l).eraseIdx i)) h' → hb_E dyn G h G' h' → Q (some (.ref a), h')) : ev_M (mf_A_remove z) [.ref (sz + hb_ro (9 + l)), .int (nI i)] h Q := by
  refine R.rem (bl_lt hl) (ev := se x) (by rw [XB_at s hl, List.getElem?_map, hi]; rfl) (fun G' h' a ha hel hG hR hE _ => k G' h' a (hR _ ⟨rfl, rfl, rfl⟩ ?_ (fun i hi hij => XB_ne s _ hl hij)) hE)
  rw [XB_self s _ hl, XB_at s hl, map_eIdx]
theorem hb_R.mlen (R : hb_R z sz dyn mu G n1 n2 s h) (hl : l < 4) : (sM s l).length ≤ 40 := by
  have := R.cap (hb_mj_lt hl); rw [XM_at s hl, List.length_map] at this; exact this
theorem hb_R.msize (R : hb_R z sz dyn mu G n1 n2 s h) (hl : l < 4) (k : Q (some (.int (nI (sM s l).length)), h)) : ev_M (mf_A_size z) [.ref (sz + hb_ro (hb_mj l))] h Q := by
  refine R.size (hb_mj_lt hl) ?_
  rw [XM_at s hl, List.length_map]; exact k
theorem hb_R.mempty (R : hb_R z sz dyn mu G n1 n2 s h) (hl : l < 4) (k : Q (some (.int (zb (sM s l).isEmpty)), h)) : ev_M (mf_A_isEmpty z) [.ref (sz + hb_ro (hb_mj l))] h Q := by
  refine R.empty (hb_mj_lt hl) ?_
  rw [XM_at s hl, List.isEmpty_map]; exact k
theorem hb_R.mclr (R : hb_R z sz dyn mu G n1 n2 s h) (hl : l < 4) (k : ∀ (G' : hb_G) (h' : ev_H), hb_R z sz dyn mu G' n1 n2 (tM s l []) h' → hb_E dyn G h G' h' → Q (none, h')) : ev_M (mf_A_clear z) [.ref (sz + hb_ro (hb_mj l))] h Q := by
  refine R.clr (hb_mj_lt hl) (fun G' h' _ hR hE => k G' h' (hR _ ⟨rfl, rfl, rfl⟩ ?_ (fun i hi hij => XM_ne s _ hl hi hij)) hE)
  rw [XM_self s _ hl]; rfl
theorem hb_R.mget {i : Nat} {x : hb_Ms} (R : hb_R z sz dyn mu G n1 n2 s h) (hl : l < 4) (hi : (sM s l)[i]? = some x) (k : ∀ a, ms_at dyn G h a x → Q (some (.ref a), h)) : ev_M (mf_A_get z) [.ref (sz + hb_ro (hb_mj l)), .int (nI i)] h Q := by
  refine R.get (hb_mj_lt hl) (ev := me x) (by rw [XM_at s hl, List.getElem?_map, hi]; rfl) (fun a ha hel => ?_)
  exact k a ⟨hel.2.1, hel.2.2, hel.1⟩
theorem hb_R.mrem {i : Nat} {x : hb_Ms} (R : hb_R z sz dyn mu G n1 n2 s h) (hl : l < 4) (hi : (sM s l)[i]? = some x) (k : ∀ (G' : hb_G) (h' : ev_H) (a : Nat), ms_at dyn G' h' a x → hb_R z sz dyn mu G' n1 n2 (tM s l ((sM s l).eraseIdx i)) h' → hb_E dyn G h G' h' → Q (some (.ref a), h')) : ev_M (mf_A_remove z) [.ref (sz + hb_ro (hb_mj l)), .int (nI i)] h Q := by
  refine R.rem (hb_mj_lt hl) (ev := me x) (by rw [XM_at s hl, List.getElem?_map, hi]; rfl) (fun G' h' a ha hel hG hR hE _ => k G' h' a ⟨hel.2.1, by rw [hG]; exact hel.2.2, hel.1⟩ (hR _ ⟨rfl, rfl, rfl⟩ ?_ (fun i hi hij => XM_ne s _ hl hi hij)) hE)
  rw [XM_self s _ hl, XM_at s hl, map_eIdx]
theorem hb_R.madd {x : hb_Ms} {a : Nat} (R : hb_R z sz dyn mu G n1 n2 s h) (hl : l < 4) (hlen : (sM s l).length ≤ 20) (hp : ms_at dyn G h a x) (k : ∀ (G' : hb_G) (h' : ev_H), hb_R z sz dyn mu G' (n1 + 1) (n2 + 40) (tM s l (sM s l ++ [x])) h' → hb_E dyn G h G' h' → Q (some (.int 1), h')) : ev_M (mf_A_add z) [.ref (sz + hb_ro (hb_mj l)), .ref a] h Q := by
  refine R.add (ev := me x) (col := 0) (hb_mj_lt hl) (by rw [XM_at s hl, List.length_map]; exact hlen) ⟨hp.2.2, hp.1, va_up_self _ _ _⟩ (Or.inl ⟨hp.2.1, rfl⟩) (fun q => ?_) (fun G' h' hR hE _ => k G' h' (hR _ ⟨rfl, rfl, rfl⟩ ?_ (fun i hi hij => XM_ne s _ hl hi hij)) hE)
  · exfalso; unfold hb_mj at q; split at q <;> omega
  · rw [XM_self s _ hl, XM_at s hl, List.map_append]; rfl
theorem hb_R.mrem9 {i : Nat} {x : hb_Ms} (R : hb_R z sz dyn mu G n1 n2 s h) (hl : l < 4) (hi : (sM s l)[i]? = some x) (k : ∀ (G' : hb_G) (h' : ev_H) (a : Nat), ms_at dyn G' h' a x → hb_R z sz dyn mu G' n1 n2 (tM s l ((sM s l).eraseIdx i)) h' → hb_E dyn G h G' h' → (∀ b ci fs, nw_at dyn G h b ci fs → nw_at dyn G' h' b ci fs) → Q (some (.ref a), h')) : ev_M (mf_A_remove z) [.ref (sz + hb_ro (hb_mj l)), .int (nI i)] h Q := by
  refine R.rem (hb_mj_lt hl) (ev := me x) (by rw [XM_at s hl, List.getElem?_map, hi]; rfl) (fun G' h' a ha hel hG hR hE h9 => k G' h' a ⟨hel.2.1, by rw [hG]; exact hel.2.2, hel.1⟩ (hR _ ⟨rfl, rfl, rfl⟩ ?_ (fun i hi hij => XM_ne s _ hl hi hij)) hE (fun b ci fs H => ⟨(h9 b H.2.2 H.2.1).trans H.1, by rw [hG]; exact H.2.1, H.2.2⟩))
  rw [XM_self s _ hl, XM_at s hl, map_eIdx]
theorem hb_R.mset {i a : Nat} {x y : hb_Ms} (R : hb_R z sz dyn mu G n1 n2 s h) (hl : l < 4) (hi : (sM s l)[i]? = some x) (hp : ms_at dyn G h a y) (k : ∀ (G' : hb_G) (h' : ev_H) (b : Nat), hb_R z sz dyn mu G' n1 n2 (tM s l ((sM s l).set i y)) h' → hb_E dyn G h G' h' → Q (some (.ref b), h')) : ev_M (mf_A_set z) [.ref (sz + hb_ro (hb_mj l)), .int (nI i), .ref a] h Q := by
  refine R.set (ev := me x) (ev' := me y) (hb_mj_lt hl) (by unfold hb_mj; split <;> omega) (by rw [XM_at s hl, List.getElem?_map, hi]; rfl) hp.el hp.2.1 (fun G' h' b _ hR hE => k G' h' b (hR _ ⟨rfl, rfl, rfl⟩ ?_ (fun i hi hij => XM_ne s _ hl hi hij)) hE)
  rw [XM_self s _ hl, XM_at s hl, List.map_set]
-- a parcel or a subscription that was just made
theorem hb_R.padd {x : hb_Pa} {a ma : Nat} (R : hb_R z sz dyn mu G n1 n2 s h) (hl : l < 6) (hlen : (sP s l).length ≤ 20) (hp : h.2.2 a = some (.inr (10, [.ref ma, .int x.2.1, .int x.2.2]))) (h99 : G.1 a = 99) (hd : dyn ≤ a) (hm : ms_at dyn G h ma x.1) (k : ∀ (G' : hb_G) (h' : ev_H), hb_R z sz dyn mu G' (n1 + 1) (n2 + 40) (tP s l (sP s l ++ [x])) h' → hb_E dyn G h G' h' → (h'.2.2 a = some (.inr (10, [.ref ma, .int x.2.1, .int x.2.2]))) → Q (some (.int 1), h')) : ev_M (mf_A_add z) [.ref (sz + hb_ro (hb_pj l)), .ref a] h Q := by
  have hne : ma ≠ a := fun e => by have := hm.2.1; rw [e, h99] at this; omega
  refine R.add (ev := pe x) (col := 100 + hb_pj l) (hb_pj_lt hl) (by rw [XP_at s hl, List.length_map]; exact hlen) ⟨hd, va_up_self _ _ _, ma, hp, hm.2.2, by rw [va_up_ne _ _ hne]; exact hm.2.1, hm.1⟩ (Or.inr ⟨h99, rfl⟩) (fun _ => h99) (fun G' h' hR hE hv => ?_)
  have R' := hR (tP s l (sP s l ++ [x])) ⟨rfl, rfl, rfl⟩ (by rw [XP_self s _ hl, XP_at s hl, List.map_append]; rfl) (fun i hi hij => XP_ne s _ hl hi hij)
  exact k G' h' R' hE (hv.trans hp)
theorem hb_R.badd {x : hb_Sb} {a : Nat} (R : hb_R z sz dyn mu G n1 n2 s h) (hl : l < 3) (hlen : (sB s l).length ≤ 20) (hp : h.2.2 a = some (.inr (11, hb_sbF x))) (h99 : G.1 a = 99) (hd : dyn ≤ a) (k : ∀ (G' : hb_G) (h' : ev_H), hb_R z sz dyn mu G' (n1 + 1) (n2 + 40) (tB s l (sB s l ++ [x])) h' → hb_E dyn G h G' h' → Q (some (.int 1), h')) : ev_M (mf_A_add z) [.ref (sz + hb_ro (9 + l)), .ref a] h Q := by
  refine R.add (ev := se x) (col := 100 + (9 + l)) (bl_lt hl) (by rw [XB_at s hl, List.length_map]; exact hlen) ⟨hd, hp, va_up_self _ _ _⟩ (Or.inr ⟨h99, rfl⟩) (fun _ => h99) (fun G' h' hR hE _ => k G' h' (hR _ ⟨rfl, rfl, rfl⟩ ?_ (fun i hi hij => XB_ne s _ hl hij)) hE)
  rw [XB_self s _ hl, XB_at s hl, List.map_append]; rfl
end TL
