/-! The reference's rows: pushing, changing the last, shifting (laid by wip/whole/p95.py). -/
theorem uI_2 (t : rf_S) (f j : Nat) (v : Int32) : (uI t f j v).2 = t.2 := rfl
theorem uL_0 (t : rf_S) (f j : Nat) (v : Int64) : (uL t f j v).1 = t.1 := rfl
theorem uL_2 (t : rf_S) (f j : Nat) (v : Int64) : (uL t f j v).2.2 = t.2.2 := rfl
theorem uS_0 (t : rf_S) (f : Nat) (v : Int32) : (uS t f v).1 = t.1 := rfl
theorem uS_2 (t : rf_S) (f : Nat) (v : Int32) : (uS t f v).2.1 = t.2.1 := rfl
theorem uS_3 (t : rf_S) (f : Nat) (v : Int32) : (uS t f v).2.2.2 = t.2.2.2 := rfl
theorem uK_0 (t : rf_S) (f : Nat) (v : Int64) : (uK t f v).1 = t.1 := rfl
theorem uK_2 (t : rf_S) (f : Nat) (v : Int64) : (uK t f v).2.1 = t.2.1 := rfl
theorem uK_3 (t : rf_S) (f : Nat) (v : Int64) : (uK t f v).2.2.1 = t.2.2.1 := rfl
theorem ag.mono {W W' : Nat → Nat → Prop} {t t' : rf_S} (A : ag W t t') (h : ∀ f j, W f j → W' f j) : ag W' t t' := ⟨fun f j q => A.1 f j (fun e => q (h f j e)), A.2⟩
section BDS
variable {s : hb_S}
theorem BD.dN (B : BD s) (l : Nat) {ps : List hb_Pk} (h : ps.length ≤ 31) : BD (tN s l ps) := by
  refine ⟨fun l' hl' => ?_, B.2.1, B.2.2.1, B.2.2.2.1, B.2.2.2.2⟩
  by_cases e : l' = l
  · subst e; rw [sN_tN]; exact h
  · have : sN (tN s l ps) l' = sN s l' := by simp [st_a, e]
    rw [this]; exact B.1 l' hl'
theorem BD.dP (B : BD s) {c : Nat} (hc : c < 3) {ps : List hb_Pa} (h : ps.length ≤ 4) : BD (tP s c ps) := by
  refine ⟨B.1, fun c' hc' => ?_, B.2.2.1, fun c' hc' => ?_, B.2.2.2.2⟩
  · by_cases e : c' = c
    · subst e; rw [sP_tP]; exact h
    · have : sP (tP s c ps) c' = sP s c' := by simp [st_a, e]
      rw [this]; exact B.2.1 c' hc'
  · have : sP (tP s c ps) (3 + c') = sP s (3 + c') := by simp only [sP, tP]; exact va_up_ne _ _ (by omega)
    rw [this]; exact B.2.2.2.1 c' hc'
theorem BD.dB (B : BD s) {c : Nat} {ps : List hb_Sb} (h : ps.length ≤ 4) : BD (tB s c ps) := by
  refine ⟨B.1, B.2.1, fun c' hc' => ?_, B.2.2.2.1, B.2.2.2.2⟩
  by_cases e : c' = c
  · subst e; rw [sB_tB]; exact h
  · have : sB (tB s c ps) c' = sB s c' := by simp [st_a, e]
    rw [this]; exact B.2.2.1 c' hc'
theorem BD.dU (B : BD s) {c : Nat} (hc : c < 3) {us : List hb_Pa} {ms : List hb_Ms} (h : us.length + ms.length ≤ 7) : BD (tP (tM s c ms) (3 + c) us) := by
  refine ⟨B.1, fun c' hc' => ?_, B.2.2.1, fun c' hc' => ?_, ?_⟩
  · have : sP (tP (tM s c ms) (3 + c) us) c' = sP s c' := by simp only [sP, tP, tM]; exact va_up_ne _ _ (by omega)
    rw [this]; exact B.2.1 c' hc'
  · by_cases e : c' = c
    · subst e
      have e1 : sP (tP (tM s c' ms) (3 + c') us) (3 + c') = us := sP_tP _ _ _
      have e2 : sM (tP (tM s c' ms) (3 + c') us) c' = ms := sM_tM _ _ _
      rw [e1, e2]; exact h
    · have e1 : sP (tP (tM s c ms) (3 + c) us) (3 + c') = sP s (3 + c') := by simp only [sP, tP, tM]; exact va_up_ne _ _ (by omega)
      have e2 : sM (tP (tM s c ms) (3 + c) us) c' = sM s c' := by simp only [sM, tP, tM]; exact va_up_ne _ _ e
      rw [e1, e2]; exact B.2.2.2.1 c' hc'
  · have : sM (tP (tM s c ms) (3 + c) us) 3 = sM s 3 := by simp only [sM, tP, tM]; exact va_up_ne _ _ (by omega)
    rw [this]; exact B.2.2.2.2
theorem BD.dK (B : BD s) {ms : List hb_Ms} (h : ms.length ≤ 4) : BD (tM s 3 ms) := by
  refine ⟨B.1, B.2.1, B.2.2.1, fun c' hc' => ?_, by rw [sM_tM]; exact h⟩
  have : sM (tM s 3 ms) c' = sM s c' := by simp only [sM, tM]; exact va_up_ne _ _ (by omega)
  rw [this]; exact B.2.2.2.1 c' hc'
end BDS
section RP
variable {s : hb_S} {t t' : rf_S} {l : Nat}
theorem RR.push {p' : hb_Pk} (H : RR s t) (B : BD s) (hl : l < 6) (h30 : (sN s l).length ≤ 30) (A : ag (fun f j => (f = 0 ∧ j = l) ∨ (1 ≤ f ∧ f < 12 ∧ j = 32 * l + (sN s l).length)) t t') (K : t'.2.2.1 58 = t.2.2.1 58) (hn : t'.1 0 l = t.1 0 l + 1) (r : rpk t' (32 * l + (sN s l).length) p') : RR (tN s l (sN s l ++ [p'])) t' := by
  refine H.line B (A.mono (fun f j q => ?_)) K ⟨?_, fun k p hk => ?_⟩
  · unfold WN
    rcases q with q | q
    · exact Or.inl q
    · right; omega
  · rw [hn, (H.n l hl).1, List.length_append, nI_1]; rfl
  · by_cases e : k < (sN s l).length
    · rw [List.getElem?_append_left e] at hk
      exact ((H.n l hl).2 k p hk).cg (fun f h1 h2 => A.1 f _ (by omega))
    · rw [List.getElem?_append_right (by omega)] at hk
      have h0 : k - (sN s l).length = 0 := by
        have := (List.getElem?_eq_some_iff.mp hk).1
        simp at this; omega
      rw [h0] at hk
      have : p' = p := by simpa using hk
      rw [← this, show k = (sN s l).length by omega]; exact r
theorem RR.last {old : List hb_Pk} {p0 p' : hb_Pk} (H : RR s t) (B : BD s) (hl : l < 6) (e0 : sN s l = old ++ [p0]) (A : ag (fun f j => 1 ≤ f ∧ f < 12 ∧ j = 32 * l + old.length) t t') (K : t'.2.2.1 58 = t.2.2.1 58) (r : rpk t' (32 * l + old.length) p') : RR (tN s l (old ++ [p'])) t' := by
  have hlen : old.length ≤ 30 := by have := B.1 l hl; rw [e0] at this; simp at this; omega
  refine H.line B (A.mono (fun f j q => ?_)) K ⟨?_, fun k p hk => ?_⟩
  · unfold WN; right; omega
  · rw [A.i 0 l (by omega), (H.n l hl).1, e0, List.length_append, List.length_append]; rfl
  · by_cases e : k < old.length
    · rw [List.getElem?_append_left e] at hk
      exact ((H.n l hl).2 k p (by rw [e0, List.getElem?_append_left e]; exact hk)).cg (fun f h1 h2 => A.1 f _ (by omega))
    · rw [List.getElem?_append_right (by omega)] at hk
      have h0 : k - old.length = 0 := by
        have := (List.getElem?_eq_some_iff.mp hk).1
        simp at this; omega
      rw [h0] at hk
      have : p' = p := by simpa using hk
      rw [← this, show k = old.length by omega]; exact r
theorem RR.lastr {old : List hb_Pk} {p0 : hb_Pk} (H : RR s t) (hl : l < 6) (e0 : sN s l = old ++ [p0]) : rpk t (32 * l + old.length) p0 := (H.n l hl).2 _ _ (by rw [e0]; simp)
end RP
theorem tN_tN (s : hb_S) (l : Nat) (x y : List hb_Pk) : tN (tN s l x) l y = tN s l y := by simp only [tN, bx_uu]
section ZW
variable {z : Nat × Nat} {m0 : Nat} {s : hb_S} {p : hb_Pk} {t : rf_S} {h : ev_H} {C : ev_C} {pc nx : Nat} {L : ev_L} {r : List Value} {Q : ev_O → Prop} {c l : Nat} {i : Int32}
theorem ev_W.p0z (R : zR z m0 s p t h) (hl : l < 6) (hi : i = nI l) (hf : ev_find C pc = some (ev_fn (ev_iast nx))) (k : ∀ t' h', zR z m0 (tN s l []) p t' h' → rf_E m0 h h' → ev_W C (nx, L, r, h') Q) : ev_W C (pc, L, .int 0 :: .int i :: .ref (m0 + (1 + rf_r 0)) :: r, h) Q := by
  refine ev_W.si 0 R.1 rfl hi hl hf (fun h' P E => k _ h' ⟨P, ?_, R.2.2.1, R.2.2.2.dN l (by simp)⟩ E)
  refine R.2.1.line R.2.2.2 (ag.rf.wI 0 (Or.inl ⟨rfl, rfl⟩)) rfl ⟨?_, fun k p hk => by simp at hk⟩
  rw [uI_1, if_pos ⟨rfl, rfl⟩]; rfl
theorem ev_W.p4L {x : Int32} {old : List hb_Pk} {p0 : hb_Pk} (R : zR z m0 s p t h) (hl : l < 6) (e0 : sN s l = old ++ [p0]) (h1 : ¬ p0.1 = 1) (hi : i = nI (32 * l + old.length)) (hf : ev_find C pc = some (ev_fn (ev_iast nx))) (k : ∀ t' h', zR z m0 (tN s l (old ++ [(p0.1, p0.2.1, p0.2.2.1, p0.2.2.2.1, x, p0.2.2.2.2.2)])) p t' h' → rf_E m0 h h' → ev_W C (nx, L, r, h') Q) : ev_W C (pc, L, .int x :: .int i :: .ref (m0 + (1 + rf_r 4)) :: r, h) Q := by
  have hlen : old.length ≤ 30 := by have := R.2.2.2.1 l hl; rw [e0] at this; simp at this; omega
  obtain ⟨a1, a2, a3, a4, a5, a6, a7, a8⟩ := R.2.1.lastr hl e0
  have a9 := a8 h1
  skip
  refine ev_W.si 4 R.1 rfl hi (show 32 * l + old.length < 192 by omega) hf (fun h' P E => k _ h' ⟨P, ?_, R.2.2.1, R.2.2.2.dN l (by simp; omega)⟩ E)
  refine R.2.1.last R.2.2.2 hl e0 (ag.rf.wI x ⟨by decide, by decide, rfl⟩) rfl ?_
  refine ⟨?_, ?_, ?_, ?_, ?_, ?_, fun q => absurd q h1, fun _ => ?_⟩
  all_goals first | assumption | (simp only [uI_1, uI_2]; first | assumption | (simp; done) | (simp; assumption))
theorem ev_W.p5L {x : Bool} {old : List hb_Pk} {p0 : hb_Pk} (R : zR z m0 s p t h) (hl : l < 6) (e0 : sN s l = old ++ [p0]) (h1 : ¬ p0.1 = 1) (hi : i = nI (32 * l + old.length)) (hf : ev_find C pc = some (ev_fn (ev_zast nx))) (k : ∀ t' h', zR z m0 (tN s l (old ++ [(p0.1, p0.2.1, p0.2.2.1, p0.2.2.2.1, p0.2.2.2.2.1, x, p0.2.2.2.2.2.2)])) p t' h' → rf_E m0 h h' → ev_W C (nx, L, r, h') Q) : ev_W C (pc, L, .int (zb x) :: .int i :: .ref (m0 + (1 + rf_r 5)) :: r, h) Q := by
  have hlen : old.length ≤ 30 := by have := R.2.2.2.1 l hl; rw [e0] at this; simp at this; omega
  obtain ⟨a1, a2, a3, a4, a5, a6, a7, a8⟩ := R.2.1.lastr hl e0
  have a9 := a8 h1
  skip
  refine ev_W.sz 5 R.1 rfl (zb_01 x) hi (show 32 * l + old.length < 192 by omega) hf (fun h' P E => k _ h' ⟨P, ?_, R.2.2.1, R.2.2.2.dN l (by simp; omega)⟩ E)
  refine R.2.1.last R.2.2.2 hl e0 (ag.rf.wI (zb x) ⟨by decide, by decide, rfl⟩) rfl ?_
  refine ⟨?_, ?_, ?_, ?_, ?_, ?_, fun q => absurd q h1, fun _ => ?_⟩
  all_goals first | assumption | (simp only [uI_1, uI_2]; first | assumption | (simp; done) | (simp; assumption))
theorem ev_W.p6L {x : Bool} {old : List hb_Pk} {p0 : hb_Pk} (R : zR z m0 s p t h) (hl : l < 6) (e0 : sN s l = old ++ [p0]) (h1 : ¬ p0.1 = 1) (hi : i = nI (32 * l + old.length)) (hf : ev_find C pc = some (ev_fn (ev_zast nx))) (k : ∀ t' h', zR z m0 (tN s l (old ++ [(p0.1, p0.2.1, p0.2.2.1, p0.2.2.2.1, p0.2.2.2.2.1, p0.2.2.2.2.2.1, x, p0.2.2.2.2.2.2.2)])) p t' h' → rf_E m0 h h' → ev_W C (nx, L, r, h') Q) : ev_W C (pc, L, .int (zb x) :: .int i :: .ref (m0 + (1 + rf_r 6)) :: r, h) Q := by
  have hlen : old.length ≤ 30 := by have := R.2.2.2.1 l hl; rw [e0] at this; simp at this; omega
  obtain ⟨a1, a2, a3, a4, a5, a6, a7, a8⟩ := R.2.1.lastr hl e0
  have a9 := a8 h1
  skip
  refine ev_W.sz 6 R.1 rfl (zb_01 x) hi (show 32 * l + old.length < 192 by omega) hf (fun h' P E => k _ h' ⟨P, ?_, R.2.2.1, R.2.2.2.dN l (by simp; omega)⟩ E)
  refine R.2.1.last R.2.2.2 hl e0 (ag.rf.wI (zb x) ⟨by decide, by decide, rfl⟩) rfl ?_
  refine ⟨?_, ?_, ?_, ?_, ?_, ?_, fun q => absurd q h1, fun _ => ?_⟩
  all_goals first | assumption | (simp only [uI_1, uI_2]; first | assumption | (simp; done) | (simp; assumption))
theorem ev_W.p7L {x : Int64} {y : Int64} {old : List hb_Pk} {p0 : hb_Pk} (R : zR z m0 s p t h) (hl : l < 6) (e0 : sN s l = old ++ [p0]) (h1 : ¬ p0.1 = 1) (hv : y = tz_pl x) (hi : i = nI (32 * l + old.length)) (hf : ev_find C pc = some (ev_fn (ev_last nx))) (k : ∀ t' h', zR z m0 (tN s l (old ++ [(p0.1, p0.2.1, p0.2.2.1, x, p0.2.2.2.2)])) p t' h' → rf_E m0 h h' → ev_W C (nx, L, r, h') Q) : ev_W C (pc, L, .long y :: .int i :: .ref (m0 + (1 + rf_r 7)) :: r, h) Q := by
  have hlen : old.length ≤ 30 := by have := R.2.2.2.1 l hl; rw [e0] at this; simp at this; omega
  obtain ⟨a1, a2, a3, a4, a5, a6, a7, a8⟩ := R.2.1.lastr hl e0
  have a9 := a8 h1
  subst hv
  refine ev_W.sl 7 R.1 rfl hi (show 32 * l + old.length < 192 by omega) hf (fun h' P E => k _ h' ⟨P, ?_, R.2.2.1, R.2.2.2.dN l (by simp; omega)⟩ E)
  refine R.2.1.last R.2.2.2 hl e0 (ag.rf.wL _ ⟨by decide, by decide, rfl⟩) rfl ?_
  refine ⟨?_, ?_, ?_, ?_, ?_, ?_, fun q => absurd q h1, fun _ => ?_⟩
  all_goals first | assumption | (simp only [uL_1, uL_0]; first | assumption | (simp; done) | (simp; assumption))
end ZW
