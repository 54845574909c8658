/-! The invariant, second half: every call keeps it. -/
def HI (d l n c : Nat) (x y : List hb_Pk) (s : hb_S) : Prop := AI (Dc c d) (fun j => if j = c then l else 19) n (up1 (fun _ => []) c x) (up1 (fun _ => []) c y) s ∧ RI s
theorem HI.ci {d l n c : Nat} {x y : List hb_Pk} {s : hb_S} (hc : c < 3) (H : HI d l n c x y s) : CI d l n x y s c := by
  have := H.1 c hc
  unfold Dc up1 at this
  simp only [if_true] at this
  exact this
theorem HI_one {d d' l l' : Nat} {n c : Nat} {x x' y y' : List hb_Pk} {s s' : hb_S} (hc : c < 3) (F : fr c s s') (H : HI d l n c x y s) (h : CI d l n x y s c → CI d' l' n x' y' s' c) : HI d' l' n c x' y' s' := ⟨AI_at hc F H.1 h, RI_fr hc F H.2⟩
theorem HI_acc {d l n c c' : Nat} {x y : List hb_Pk} {s : hb_S} {m : hb_Ms} (hd : 12 ≤ d) (hm : tpc m.1 ∧ q012 m.2.2.1) (H : HI d l n c x y s) : HI d l n c x y (M_acc s c' m).1 := AI_acc (Dc_12 hd) hm H.1 H.2
theorem HI_rp {l n c : Nat} {s : hb_S} {id va : Int32} {tx : Int64} {qu : Int32} {ag mr : Bool} {wi ke wv : Int32} (hc : c < 3) (hp : oU (3, id, va, tx, qu, ag, mr, wi, ke, wv)) (H : HI 12 l n c [(3, id, va, tx, qu, ag, mr, wi, ke, wv)] [] s) : HI 13 l n c [] [] (M_rp s c id va tx qu mr) := by
  have hp3 := hp.2.2.1 rfl
  have H1 : HI 12 l n c [(3, id, va, tx, qu, ag, mr, wi, ke, wv)] [] (M_rpA s c id va tx qu mr).1 := by
    unfold M_rpA; split
    · exact H
    · exact HI_acc (by decide) ⟨hp3.1, hp3.2.1⟩ H
  unfold M_rp
  generalize M_rpA s c id va tx qu mr = a at H1 ⊢
  unfold M_rpB
  split
  · exact HI_one hc (fr_send _ _ _) H1 (fun h => CI_sendT (oD_4 _ _) (by decide) (by decide) (CI_drop h))
  · split
    · rename_i _ h2
      have hi : idr id := hp3.2.2
      have fin : ∀ (t : hb_S) (v : Int32), fr c a.1 t → (CI 12 l n [(3, id, va, tx, qu, ag, mr, wi, ke, wv)] [] a.1 c → CI 12 l n [(3, id, va, tx, qu, ag, mr, wi, ke, wv)] [] t c) → HI 13 l n c [] [] (M_send t c (mkp 5 id v)) := fun t v F g => HI_one hc (F.tr (fr_send _ _ _)) H1 (fun h => CI_rec _ rfl h2 hi (g h))
      split
      · refine fin _ _ (fr_I 13 _) (fun h => CI_13 ?_ h)
        obtain ⟨k, hk, ek⟩ := h.2.2.2.2.2.2.2.2.2.2.2.1
        obtain ⟨i, hi1, ei⟩ := hi
        rw [ek, ei]; exact h_add hk hi1
      · exact fin _ _ fr.rf (fun h => h)
    · exact HI_one hc fr.rf H1 (fun h => (CI_drop h).mono (by omega) (Nat.le_refl _) (Nat.le_refl _))
-- subscribing
theorem CI_tB {D L n c : Nat} {x y : List hb_Pk} {s : hb_S} {bs : List hb_Sb} (hl : ¬ sI s 10 c = 0) (h1 : ∀ b, b ∈ bs → oS b) (h2 : bs.length ≤ 4) (H : CI D L n x y s c) : CI D L n x y (tB s c bs) c := by
  obtain ⟨a, b, l, s4, k5, k6, k7⟩ := H
  have e : sB (tB s c bs) c = bs := sB_tB _ _ _
  exact ⟨a, b, l, s4, ⟨k5.1, k5.2.1, k5.2.2.1, by rw [e]; exact h1, fun q => absurd q hl⟩, ⟨by rw [e]; exact h2, k6.2⟩, k7⟩
theorem CI_enter {D L n c : Nat} {x y : List hb_Pk} {s : hb_S} {f : Int64} {q : Int32} {nl : Bool} (hl : ¬ sI s 10 c = 0) (hf : ftr f) (hq : q012 q) (H : CI D L n x y s c) : CI D L n x y (M_enter s c f q nl).1 c := by
  have k5 := H.2.2.2.2.1.2.2.2.1
  have k6 := H.2.2.2.2.2.1.1
  unfold M_enter; split
  · refine CI_tB hl (fun b hb => ?_) (by rw [List.length_set]; exact k6) H
    rcases List.mem_or_eq_of_mem_set hb with hb | rfl
    · exact k5 b hb
    · exact ⟨hf, hq⟩
  · split
    · refine CI_tB hl (fun b hb => ?_) (by rw [List.length_append]; show (sB s c).length + 1 ≤ 4; omega) H
      rcases List.mem_append.mp hb with hb | hb
      · exact k5 b hb
      · rw [List.mem_singleton.mp hb]; exact ⟨hf, hq⟩
    · exact H
theorem fr_enter (s : hb_S) (c : Nat) (f : Int64) (q : Int32) (nl : Bool) : fr c s (M_enter s c f q nl).1 := by
  unfold M_enter; split
  · exact fr_B _
  · split
    · exact fr_B _
    · exact fr.rf
theorem fr_give (s : hb_S) (c : Nat) (m : hb_Ms) : fr c s (M_give s c m) := by
  unfold M_give; split
  · exact fr_send _ _ _
  · split
    · exact fr_M _
    · exact fr.rf
theorem fr_gvF : ∀ (B : List hb_Ms) (s : hb_S) (c : Nat) (f : Int64) (q : Int32), fr c s (M_gvF B s c f q) := by
  intro B
  induction B with
  | nil => intro s c f q; exact fr.rf
  | cons m B ih =>
    intro s c f q
    rw [M_gvF]
    split
    · exact (fr_give _ _ _).tr (ih _ _ _ _)
    · exact ih _ _ _ _
theorem CI_give {D L n c : Nat} {x y : List hb_Pk} {s : hb_S} {m : hb_Ms} (hd : 12 ≤ D) (hm : tpc m.1 ∧ q012 m.2.2.1) (H : CI D L n x y s c) : CI D L n x y (M_give s c m) c := by
  unfold M_give; split
  · rename_i h
    refine CI_send12 (oD_pub (Or.inl h.1) ⟨0, by decide, rfl⟩ false) (by show ¬ (3 : Int32) = 2; decide) (by show ¬ (3 : Int32) = 5; decide) hd h.2 H
  · split
    · rename_i _ h
      refine CI_tM (fun a ha => ?_) (by rw [List.length_append]; show (sM s c).length + 1 + _ ≤ 6; omega) H
      rcases List.mem_append.mp ha with ha | ha
      · exact H.2.2.2.2.1.2.2.1 a ha
      · rw [List.mem_singleton.mp ha]; exact ⟨hm.1, q_pos (Or.inr hm.2) h.1⟩
    · exact H
theorem CI_gvF {D L n c : Nat} {x y : List hb_Pk} {f : Int64} {q : Int32} (hd : 12 ≤ D) (hq : q012 q) : ∀ (B : List hb_Ms) (s : hb_S), (∀ m, m ∈ B → oR m) → CI D L n x y s c → CI D L n x y (M_gvF B s c f q) c := by
  intro B
  induction B with
  | nil => intro s _ H; exact H
  | cons m B ih =>
    intro s hB H
    rw [M_gvF]
    have hm := hB m List.mem_cons_self
    refine ih _ (fun a ha => hB a (List.mem_cons_of_mem _ ha)) ?_
    split
    · refine CI_give hd ⟨hm.1, ?_⟩ H
      show q012 (if q < m.2.2.1 then q else m.2.2.1)
      split
      · exact hq
      · exact hm.2
    · exact H
theorem HI_pump {d l n c : Nat} {x y : List hb_Pk} {s : hb_S} (hc : c < 3) (H : HI d l n c x y s) : HI d l n c x y (M_pump s c) := HI_one hc (fr_pump (H.ci hc)) H (CI_pump hc)
theorem HI_rs {l n c : Nat} {s : hb_S} {tx : Int64} {va : Int32} {mr : Bool} (hc : c < 3) (hat : ¬ sI s 1 c = 0) (hf : ftr tx) (hq : q012 va) (H : HI 11 l n c [] [] s) : HI 13 l n c [] [] (M_rs s c tx va mr) := by
  have hl := CI_lives (H.ci hc) hat
  unfold M_rs
  split
  · refine HI_pump hc ?_
    refine HI_one hc ((fr_enter _ _ _ _ _).tr ((fr_send _ _ _).tr (fr_gvF _ _ _ _ _))) H (fun h => ?_)
    exact (CI_gvF (D := 12) (by decide) hq _ _ H.2.1 (CI_sendT (oD_9 _ _) (by decide) (by decide) (CI_enter hl hf hq h))).mono (by decide) (Nat.le_refl _) (Nat.le_refl _)
  · refine HI_pump hc ?_
    refine HI_one hc ((fr_enter _ _ _ _ _).tr (fr_send _ _ _)) H (fun h => ?_)
    exact (CI_sendT (oD_9 _ _) (by decide) (by decide) (CI_enter hl hf hq h)).mono (by decide) (Nat.le_refl _) (Nat.le_refl _)
theorem HI_ru {l n c : Nat} {s : hb_S} {tx : Int64} (hc : c < 3) (hat : ¬ sI s 1 c = 0) (H : HI 11 l n c [] [] s) : HI 13 l n c [] [] (M_ru s c tx) := by
  have hl := CI_lives (H.ci hc) hat
  unfold M_ru
  split
  · refine HI_one hc ((fr_B _).tr (fr_send _ _ _)) H (fun h => ?_)
    exact (CI_sendT (oD_11 _ _) (by decide) (by decide) (CI_tB hl (fun b hb => h.2.2.2.2.1.2.2.2.1 b (List.mem_of_mem_eraseIdx hb)) (Nat.le_trans (List.length_eraseIdx_le _ _) h.2.2.2.2.2.1.1) h)).mono (by decide) (Nat.le_refl _) (Nat.le_refl _)
  · refine HI_one hc (fr_send _ _ _) H (fun h => ?_)
    exact (CI_sendT (oD_11 _ _) (by decide) (by decide) h).mono (by decide) (Nat.le_refl _) (Nat.le_refl _)
-- a connection opens
theorem fr_begin (s : hb_S) (c : Nat) (p : hb_Pk) : fr c s (M_begin s c p) := (fr_I 5 _).tr ((fr_I 6 _).tr ((fr_I 7 _).tr ((fr_I 8 _).tr ((fr_J 1 _).tr (fr_I 9 _)))))
theorem fr_rc0 (s : hb_S) (c : Nat) (p : hb_Pk) : fr c s (M_rc0 s c p) := by
  unfold M_rc0; split
  · exact (fr_begin _ _ _).tr ((fr_I 1 _).tr (fr_end _ _))
  · exact (fr_begin _ _ _).tr (fr_I 1 _)
theorem CI_rc0 {D L n c : Nat} {s : hb_S} {p : hb_Pk} {va : Int32} (h1 : p.1 = 1) (hp : oU p) (hva : 0 ≤ va ∧ va ≤ 50) (H : CI D L n [p] [] s c) : CI 0 L n [] [] (tI (tI (M_rc0 s c p) 10 c 1) 11 c va) c ∧ sI s 0 c = 1 ∧ (sN s (2 * c)).countP isC + (sN s (2 * c + 1)).countP isK = 0 ∧ sN s (2 * c + 1) = [] := by
  obtain ⟨a, b, ⟨l1, l2, l3, l4, l5, l6, l7⟩, s4, k5, k6, c1, c2, c3, c4, c5, c6, c7, c8, c9, c10⟩ := H
  have iC : isC p = true := decide_eq_true h1
  have cC : ([p] ++ sN s (2 * c)).countP isC = (sN s (2 * c)).countP isC + 1 := by rw [List.singleton_append, List.countP_cons, iC]; rfl
  rw [cC] at l3 l6
  have h0 : sI s 0 c = 1 := by
    apply Classical.byContradiction
    intro q; rw [if_neg q] at l3; omega
  have ha : sI s 1 c = 0 := by
    apply Classical.byContradiction
    intro q; have := l6 q; omega
  rw [if_pos h0] at l3
  rw [List.nil_append] at l3
  have hz : (sN s (2 * c)).countP isC + (sN s (2 * c + 1)).countP isK = 0 := by omega
  have hd : sN s (2 * c + 1) = [] := (List.append_eq_nil_iff.mp (l2 ha).1).2
  have hcn := hp.2.1 h1
  have nU : ∀ i, isU i p = false := fun i => decide_eq_false (fun q => absurd (h1.symm.trans q.1) (by decide))
  have l5' := l5 h0
  have cU : ∀ i, (sN s (2 * c)).countP (isU i) + (sN s (2 * c + 1)).countP (isR i) = 0 := fun i => by
    have := l5' i
    rw [List.singleton_append, List.countP_cons, nU i, List.nil_append] at this
    exact this
  have lk : ∀ t : hb_S, sN t = sN s → sI t 0 c = 1 → ¬ sI t 1 c = 0 → LK [] [] t c := by
    intro t e1 e2 e3
    unfold LK
    rw [e1, e2]
    refine ⟨fun q => absurd q (by decide), fun q => absurd q e3, by rw [if_pos rfl]; simp only [List.nil_append]; omega, fun i => by simp only [List.nil_append]; rw [cU]; exact Nat.zero_le _, fun _ i => by simp only [List.nil_append]; exact cU i, fun _ => by simp only [List.nil_append]; omega, fun _ => e3⟩
  refine ⟨?_, h0, hz, hd⟩
  unfold M_rc0
  split
  · unfold M_end
    have e0 : ∀ (t : hb_S), sP (tP t (3 + c) []) c = sP t c := fun t => by simp only [sP, tP]; exact va_up_ne _ _ (by omega)
    have hB : ∀ t : hb_S, sB (tI (tI (tI (tI (tP (tM (tB t c []) c []) (3 + c) []) 13 c 0) 10 c 0) 10 c 1) 11 c va) c = [] := fun t => sB_tB t _ _
    have hM : ∀ t : hb_S, sM (tI (tI (tI (tI (tP (tM (tB t c []) c []) (3 + c) []) 13 c 0) 10 c 0) 10 c 1) 11 c va) c = [] := fun t => sM_tM (tB t c []) _ _
    have hP : ∀ t : hb_S, sP (tI (tI (tI (tI (tP (tM (tB t c []) c []) (3 + c) []) 13 c 0) 10 c 0) 10 c 1) 11 c va) (3 + c) = [] := fun t => sP_tP _ _ _
    refine ⟨a, fun q hq => b q hq, lk _ rfl h0 (by simp [st_a]), ?_, ⟨?_, ?_, ?_, ?_, ?_⟩, ⟨?_, ?_, ?_, by simp [M_begin, st_a]; exact hcn.2.1, ?_⟩, ⟨?_, ⟨by simp [M_begin, st_a]; exact hcn.2.2.1, c2.2.1, fun _ => by simp [M_begin, st_a]⟩, ?_, ?_, c5, ⟨0, by decide, by simp [st_a]; rfl⟩, c7, c8, by simp [M_begin, st_a]; exact hcn.2.2.2, fun _ => by simp [st_a]⟩⟩
    · refine Eq.mpr (congrArg okS (e0 _)) s4
    · rw [hP]; intro x hx; cases hx
    · rw [hP]; exact List.Pairwise.nil
    · rw [hM]; intro x hx; cases hx
    · rw [hB]; intro x hx; cases hx
    · intro _; exact hB _
    · rw [hB]; exact Nat.zero_le _
    · rw [hM, hP]; exact Nat.zero_le _
    · show (sN s (2 * c + 1)).length ≤ _
      rw [hd]; exact Nat.zero_le _
    · rw [hP]; exact Nat.zero_le _
    · intro q; exact absurd q (by simp [M_begin, st_a])
    · simp [st_a]; exact hva
    · intro q; exact absurd q (by simp [M_begin, st_a])
  · refine ⟨a, fun q hq => b q hq, lk _ rfl h0 (by simp [st_a]), s4, ⟨k5.1, k5.2.1, k5.2.2.1, k5.2.2.2.1, ?_⟩, ⟨k6.1, k6.2.1, ?_, by simp [M_begin, st_a]; exact hcn.2.1, k6.2.2.2.2⟩, ⟨?_, ⟨by simp [M_begin, st_a]; exact hcn.2.2.1, c2.2.1, fun _ => by simp [M_begin, st_a]⟩, ?_, ?_, c5, c6, c7, c8, by simp [M_begin, st_a]; exact hcn.2.2.2, fun _ => by simp [st_a]⟩⟩
    · intro q; exact absurd q (by simp [st_a])
    · show (sN s (2 * c + 1)).length ≤ _
      rw [hd]; exact Nat.zero_le _
    · intro q; exact absurd q (by simp [M_begin, st_a])
    · simp [st_a]; exact hva
    · intro q; exact absurd q (by simp [M_begin, st_a])
theorem CI_sendK {D L n c : Nat} {s : hb_S} {v : Int32} (h0 : sI s 0 c = 1) (hz : (sN s (2 * c)).countP isC + (sN s (2 * c + 1)).countP isK = 0) (H : CI D L n [] [] s c) : CI (D + 1) L n [] [] (M_send s c (mkp 2 0 v)) c := by
  unfold M_send
  by_cases h : sI s 1 c = 0
  · rw [if_pos h]; exact H.mono (by omega) (by omega) (by omega)
  · rw [if_neg h]
    obtain ⟨a, b, ⟨l1, l2, l3, l4, l5, l6, l7⟩, s4, k5, k6, k7⟩ := H
    have e1 : sN (tN s (2 * c + 1) (sN s (2 * c + 1) ++ [mkp 2 0 v])) (2 * c + 1) = sN s (2 * c + 1) ++ [mkp 2 0 v] := sN_tN _ _ _
    have e0 : sN (tN s (2 * c + 1) (sN s (2 * c + 1) ++ [mkp 2 0 v])) (2 * c) = sN s (2 * c) := by simp only [sN, tN]; exact va_up_ne _ _ (by omega)
    have fR : ∀ i, isR i (mkp 2 0 v) = false := fun i => decide_eq_false (fun q => absurd q.1 (by show ¬ (2 : Int32) = 5; decide))
    refine ⟨by rw [e0]; exact a, fun q hq => ?_, ⟨fun q => absurd (l1 q).2 h, fun q => absurd q h, ?_, ?_, ?_, ?_, l7⟩, s4, k5, ⟨k6.1, k6.2.1, ?_, k6.2.2.2⟩, k7⟩
    · rw [e1] at hq
      rcases List.mem_append.mp hq with hq | hq
      · exact b q hq
      · rw [List.mem_singleton.mp hq]; exact oD_2 0 v
    · rw [e0, e1, ← List.append_assoc, cP_app]
      have e : sI (tN s (2 * c + 1) (sN s (2 * c + 1) ++ [mkp 2 0 v])) 0 c = 1 := h0
      rw [e, if_pos rfl]
      simp only [List.nil_append]
      split <;> omega
    · intro i; rw [e0, e1, ← List.append_assoc, cP_app, fR i]; exact l4 i
    · intro q i; rw [e0, e1, ← List.append_assoc, cP_app, fR i]; exact l5 q i
    · intro _; rw [e0]; exact l6 h
    · rw [e1, List.length_append]
      have := k6.2.2.1
      show (sN s (2 * c + 1)).length + 1 ≤ D + 1 + (sP s (3 + c)).length
      omega
theorem oD_rp {x : hb_Pa} (h : oA x) : oD (pa_rp x) ∧ ¬ (pa_rp x).1 = 2 ∧ ¬ (pa_rp x).1 = 5 := by
  unfold pa_rp; split
  · exact ⟨oD_pub (m := (x.1.1, x.1.2.1, x.1.2.2.1, x.1.2.2.2)) h.1.q h.i true, by show ¬ (3 : Int32) = 2; decide, by show ¬ (3 : Int32) = 5; decide⟩
  · exact ⟨oD_6 0 h.i, by show ¬ (6 : Int32) = 2; decide, by show ¬ (6 : Int32) = 5; decide⟩
theorem fr_agF : ∀ (B : List hb_Pa) (s : hb_S) (c : Nat), fr c s (M_agF B s c) := by
  intro B
  induction B with
  | nil => intro s c; exact fr.rf
  | cons x B ih => intro s c; rw [M_agF]; exact (fr_send _ _ _).tr (ih _ _)
theorem CI_agF {L n c : Nat} {x y : List hb_Pk} : ∀ (B : List hb_Pa) (D : Nat) (s : hb_S), (∀ a, a ∈ B → oA a) → CI D L n x y s c → CI (D + B.length) L n x y (M_agF B s c) c := by
  intro B
  induction B with
  | nil => intro D s _ H; exact H
  | cons b B ih =>
    intro D s hB H
    rw [M_agF]
    have hb := oD_rp (hB b List.mem_cons_self)
    have := ih (D + 1) _ (fun a ha => hB a (List.mem_cons_of_mem _ ha)) (CI_send hb.1 hb.2.1 hb.2.2 H)
    rw [List.length_cons, show D + (B.length + 1) = D + 1 + B.length by omega]; exact this
theorem rc1_eq (t : hb_S) (c : Nat) (va : Int32) : M_rc1 t c va = M_send (tI (tI t 10 c 1) 11 c va) c (mkp 2 0 (if sI t 10 c = 0 then 0 else 1)) := by
  unfold M_rc1 M_send
  have e : sI (tI (tI t 10 c 1) 11 c va) 1 c = sI t 1 c := rfl
  rw [e]
  split <;> rfl
theorem rc0_P (s : hb_S) (c : Nat) (p : hb_Pk) : sN (M_rc0 s c p) = sN s ∧ sI (M_rc0 s c p) 0 c = sI s 0 c := by
  unfold M_rc0; split
  · exact ⟨rfl, by simp [M_end, M_begin, st_a]⟩
  · exact ⟨rfl, by simp [M_begin, st_a]⟩
theorem fr_rc1 (s : hb_S) (c : Nat) (va : Int32) : fr c s (M_rc1 s c va) := (fr_send _ _ _).tr ((fr_I 10 _).tr (fr_I 11 _))
theorem HI_rc {d l n c : Nat} {s : hb_S} {p : hb_Pk} (hc : c < 3) (h1 : p.1 = 1) (hp : oU p) (H : HI d l n c [p] [] s) : HI 13 l n c [] [] (M_rc s c p) := by
  unfold M_rc
  refine HI_pump hc ?_
  refine HI_one hc ((fr_rc0 s c p).tr ((fr_rc1 _ _ _).tr (fr_agF _ _ _))) H (fun h => ?_)
  obtain ⟨g, g0, gz, gd⟩ := CI_rc0 (va := p.2.2.1) h1 hp (hp.2.1 h1).1 h
  have eN := (rc0_P s c p).1
  have e0 := (rc0_P s c p).2
  rw [rc1_eq]
  have g2 := CI_sendK (v := if sI (M_rc0 s c p) 10 c = 0 then 0 else 1) (by show sI (M_rc0 s c p) 0 c = 1; rw [e0]; exact g0) (by show (sN (M_rc0 s c p) (2 * c)).countP isC + (sN (M_rc0 s c p) (2 * c + 1)).countP isK = 0; rw [eN]; exact gz) g
  have hA : ∀ a, a ∈ sP (M_rc0 s c p) (3 + c) → oA a := g.2.2.2.2.1.1
  have hL : (sP (M_rc0 s c p) (3 + c)).length ≤ 3 := g.2.2.2.2.2.1.2.2.2.2
  exact (CI_agF _ _ _ hA g2).mono (by omega) (Nat.le_refl _) (Nat.le_refl _)
theorem HI.mono {d l n c d' l' : Nat} {x y : List hb_Pk} {s : hb_S} (hc : c < 3) (H : HI d l n c x y s) (hd : d ≤ d') (hl : l ≤ l') : HI d' l' n c x y s := HI_one hc fr.rf H (fun h => h.mono hd hl (Nat.le_refl _))
theorem HI_7 {d l n c : Nat} {x y : List hb_Pk} {s : hb_S} (hc : c < 3) (H : HI d l n c x y s) : HI d l n c x y (tI s 7 c 0) := HI_one hc (fr_I 7 0) H (fun h => by
  obtain ⟨a, b, l, s4, k5, k6, c1, c2, c3, c4, c5, c6, c7, c8, c9, c10⟩ := h
  exact ⟨a, b, l, s4, k5, k6, c1, ⟨c2.1, c2.2.1, fun _ => by simp [st_a]⟩, c3, c4, c5, c6, c7, c8, c9, c10⟩)
theorem HI_recv {l n c : Nat} {s : hb_S} {p : hb_Pk} (hc : c < 3) (hp : oU p) (H : HI 11 l n c [p] [] s) (hd : (sN s (2 * c + 1)).length ≤ 11) : HI 13 l n c [] [] (M_recv s c p) := by
  obtain ⟨ty, id, va, tx, qu, ag, mr, wi, ke, wv⟩ := p
  have H7 := HI_7 hc H
  have drop : HI 11 l n c [] [] (tI s 7 c 0) := HI_one hc fr.rf H7 CI_drop
  have e1 : sI (tI s 7 c 0) 1 c = sI s 1 c := rfl
  rcases hp.1 with h | h | h | h | h | h | h | h | h | h
  all_goals (change ty = _ at h; subst h)
  · -- CONNECT
    rw [M_recv_1]
    have hat : sI s 1 c = 0 := by
      apply Classical.byContradiction
      intro q
      have := (H.ci hc).2.2.1.2.2.2.2.2.1 q
      rw [List.singleton_append, List.countP_cons] at this
      have e : isC (1, id, va, tx, qu, ag, mr, wi, ke, wv) = true := rfl
      rw [e] at this; simp at this
    split
    · exact HI_rc hc rfl hp H7
    · have H12 := H7.mono hc (show 11 ≤ 12 by decide) (Nat.le_refl _)
      have H13 : HI 12 l n c [(1, id, va, tx, qu, ag, mr, wi, ke, wv)] [] (M_ca (tI s 7 c 0) c) := AI_ca (s := tI s 7 c 0) hc (Dc_12 (Nat.le_refl _)) (Or.inl hat) H12.1 H12.2
      exact HI_rc hc rfl hp H13
  · rw [M_recv_3]; exact HI_rp hc hp (H7.mono hc (by decide) (Nat.le_refl _))
  · -- PUBREL
    rw [M_recv_6]
    refine HI_one hc ((fr_I 13 _).tr (fr_send _ _ _)) drop (fun h => ?_)
    refine (CI_sendT (oD_7 _ _) (by decide) (by decide) (CI_13 ?_ h)).mono (by decide) (Nat.le_refl _) (Nat.le_refl _)
    obtain ⟨k, hk, ek⟩ := h.2.2.2.2.2.2.2.2.2.2.2.1
    obtain ⟨i, hi1, ei⟩ := hp.2.2.2.2.2.1 rfl
    change id = nI i at ei
    change sI s 13 c = nI k at ek
    rw [ek, ei]; exact h_rem hk hi1
  · rw [M_recv_4]
    refine HI_pump hc (HI_one hc (fr_P3 _) drop (fun h => ?_))
    exact CI_fin hc _ _ _ (by show (sN s (2 * c + 1)).length ≤ 13; omega) h
  · rw [M_recv_5]
    refine HI_pump hc (HI_one hc ((fr_P3 _).tr (fr_send _ _ _)) drop (fun h => ?_))
    exact CI_sendT (D := 12) (oD_6 _ (hp.2.2.2.2.2.2 rfl)) (by decide) (by decide) (CI_rel hc _ (by show (sN s (2 * c + 1)).length ≤ 12; omega) h)
  · rw [M_recv_7]
    refine HI_pump hc (HI_one hc (fr_P3 _) drop (fun h => ?_))
    exact CI_fin hc _ _ _ (by show (sN s (2 * c + 1)).length ≤ 13; omega) h
  · rw [M_recv_8]
    have h8 := hp.2.2.2.1 rfl
    exact HI_rs hc (by rw [e1]; exact CI_att (H.ci hc) (by show ¬ (8 : Int32) = 1; decide)) h8.1 h8.2 drop
  · rw [M_recv_10]
    exact HI_ru hc (by rw [e1]; exact CI_att (H.ci hc) (by show ¬ (10 : Int32) = 1; decide)) drop
  · rw [M_recv_12]
    refine HI_one hc (fr_send _ _ _) drop (fun h => ?_)
    exact (CI_sendT (oD_13 _ _) (by decide) (by decide) h).mono (by decide) (Nat.le_refl _) (Nat.le_refl _)
  · rw [M_recv_14]
    exact HI_one hc (fr_cn _ _) drop (fun h => CI_cn h)
-- the client's side
theorem fr_up (s : hb_S) (c : Nat) (p : hb_Pk) : fr c s (M_up s c p) := fr_N0 _
theorem CI_up {D L n c : Nat} {x y : List hb_Pk} {s : hb_S} {p : hb_Pk} (hp : oU p) (h1 : ¬ p.1 = 1) (hat : ¬ sI s 1 c = 0) (hU : ∀ i, isU i p = true → ¬ sI s 0 c = 1 ∧ (x ++ sN s (2 * c)).countP (isU i) + (y ++ sN s (2 * c + 1)).countP (isR i) + 1 ≤ (sP s c).countP (isS i)) (H : CI D L n x y s c) : CI D (L + 1) n x y (M_up s c p) c := by
  unfold M_up
  obtain ⟨a, b, ⟨l1, l2, l3, l4, l5, l6, l7⟩, s4, k5, k6, k7⟩ := H
  have e0 : sN (tN s (2 * c) (sN s (2 * c) ++ [p])) (2 * c) = sN s (2 * c) ++ [p] := sN_tN _ _ _
  have e1 : sN (tN s (2 * c) (sN s (2 * c) ++ [p])) (2 * c + 1) = sN s (2 * c + 1) := by simp only [sN, tN]; exact va_up_ne _ _ (by omega)
  have fC : isC p = false := decide_eq_false h1
  refine ⟨⟨fun q hq => ?_, ?_⟩, by rw [e1]; exact b, ⟨fun q => absurd (l1 q).2 hat, fun q => absurd q hat, ?_, ?_, ?_, ?_, l7⟩, s4, k5, ?_, k7⟩
  · rw [e0] at hq
    rcases List.mem_append.mp hq with hq | hq
    · exact a.1 q hq
    · rw [List.mem_singleton.mp hq]; exact hp
  · rw [e0, List.length_append]; have := a.2; show (sN s (2 * c)).length + 1 ≤ L + 1; omega
  · rw [e0, e1, ← List.append_assoc, cP_app, fC]; exact l3
  · intro i; rw [e0, e1, ← List.append_assoc, cP_app]
    by_cases q : isU i p = true
    · rw [if_pos q]; have := (hU i q).2; show _ ≤ (sP s c).countP (isS i); omega
    · rw [if_neg q]; exact l4 i
  · intro w i; rw [e0, e1, ← List.append_assoc, cP_app]
    by_cases q : isU i p = true
    · exact absurd w (hU i q).1
    · rw [if_neg q]; exact l5 w i
  · intro w; rw [e0, ← List.append_assoc, cP_app, fC]; exact l6 w
  · unfold ba at k6 ⊢; rw [e1]; exact k6
theorem CI_up0 {D L n c : Nat} {x y : List hb_Pk} {s : hb_S} {p : hb_Pk} (hp : oU p) (h1 : ¬ p.1 = 1) (hat : ¬ sI s 1 c = 0) (hU : ∀ i, isU i p = false) (H : CI D L n x y s c) : CI D (L + 1) n x y (M_up s c p) c := CI_up hp h1 hat (fun i q => by rw [hU i] at q; cases q) H
theorem cP_set {α : Type} (f : α → Bool) : ∀ (l : List α) (i : Nat) (a b : α), l[i]? = some a → (l.set i b).countP f + (if f a = true then 1 else 0) = l.countP f + (if f b = true then 1 else 0) := by
  intro l
  induction l with
  | nil => intro i a b h; simp at h
  | cons x l ih =>
    intro i a b h
    cases i with
    | zero =>
      simp at h; subst h
      rw [List.set_cons_zero, List.countP_cons, List.countP_cons]; omega
    | succ i =>
      rw [List.getElem?_cons_succ] at h
      rw [List.set_cons_succ, List.countP_cons, List.countP_cons]
      have := ih i a b h
      omega
theorem uw_cP (ps : List hb_Pa) : pa_uw ps = ps.countP (fun x => decide (¬ x.2.1 = 0)) := by unfold pa_uw; rw [List.countP_eq_length_filter]
theorem dst_set : ∀ (ps : List hb_Pa) (i : Nat) (a b : hb_Pa), ps[i]? = some a → (∀ y, y ∈ ps → ¬ y.2.2 = b.2.2) → dst ps → dst (ps.set i b) := by
  intro ps
  induction ps with
  | nil => intro i a b h; simp at h
  | cons x ps ih =>
    intro i a b h hy d
    unfold dst at d ⊢
    rw [List.pairwise_cons] at d
    cases i with
    | zero =>
      rw [List.set_cons_zero, List.pairwise_cons]
      exact ⟨fun z hz => Or.inr (fun e => hy z (List.mem_cons_of_mem _ hz) e.symm), d.2⟩
    | succ i =>
      rw [List.set_cons_succ, List.pairwise_cons]
      refine ⟨fun z hz => ?_, ih i a b (by rw [List.getElem?_cons_succ] at h; exact h) (fun y h' => hy y (List.mem_cons_of_mem _ h')) d.2⟩
      rcases List.mem_or_eq_of_mem_set hz with hz | rfl
      · exact d.1 z hz
      · exact Or.inr (hy x List.mem_cons_self)
theorem oP_fl {ps : List hb_Pa} (h : ∀ x, x ∈ ps → oP x) : (ps.filter (fun x => decide (¬ x.2.2 = 0))).length = pa_uw ps := by
  unfold pa_uw
  congr 1
  apply List.filter_congr
  intro x hx
  rcases (h x hx).2 with ⟨a, b⟩ | ⟨a, b⟩
  · simp [a, b]
  · have := b.n0
    have a2 : ¬ x.2.1 = 0 := by rcases a with a | a; rw [a]; decide; rw [a.1]; decide
    simp [this, a2]
theorem oU_pub {m : hb_Ms} (ht : tpc m.1) (hq : q012 m.2.2.1) {id : Int32} (hi : idr id) (ag : Bool) : oU (M_pkt m id ag) := ⟨Or.inr (Or.inl rfl), fun e => absurd e (by show ¬ (3 : Int32) = 1; decide), fun _ => ⟨ht, hq, hi⟩, fun e => absurd e (by show ¬ (3 : Int32) = 8; decide), fun e => absurd e (by show ¬ (3 : Int32) = 10; decide), fun e => absurd e (by show ¬ (3 : Int32) = 6; decide), fun e => absurd e (by show ¬ (3 : Int32) = 5; decide)⟩
-- the store alone changes
theorem CI_store {D L n c : Nat} {x y x' y' : List hb_Pk} {s : hb_S} {ps : List hb_Pa} (hc : c < 3) (hS : okS ps) (hK : LK x' y' (tP s c ps) c) (H : CI D L n x y s c) : CI D L n x' y' (tP s c ps) c := by
  obtain ⟨a, b, l, s4, k5, k6, k7⟩ := H
  have e : sP (tP s c ps) c = ps := sP_tP _ _ _
  have e3 : sP (tP s c ps) (3 + c) = sP s (3 + c) := by simp only [sP, tP]; exact va_up_ne _ _ (by omega)
  refine ⟨a, b, hK, by rw [e]; exact hS, ?_, ?_, k7⟩
  · unfold K5 at k5 ⊢; rw [e3]; exact k5
  · unfold ba at k6 ⊢; rw [e3]; exact k6
theorem CI_cp1 {D L n c i : Nat} {x y : List hb_Pk} {s : hb_S} {a : hb_Pa} (hc : c < 3) (h0 : sI s 0 c = 2) (hi : (sP s c)[i]? = some a) (ha : a.2.1 = 0) (hu : pa_uw (sP s c) < 2) (H : CI D L n x y s c) : CI D (L + 1) n x y (M_cp1 s c i a) c ∧ pa_uw (sP (M_cp1 s c i a) c) = pa_uw (sP s c) + 1 := by
  have hS := H.2.2.2.1
  have hK := H.2.2.1
  have hat := hK.2.2.2.2.2.2 h0
  have hm := List.mem_of_getElem? hi
  have hid := pa_id_ok (fun x hx => (hS.2.1 x hx).i) (by rw [oP_fl hS.2.1]; omega)
  have cS : ∀ j, ((sP s c).set i (a.1, 1, nI (pa_id (sP s c)))).countP (isS j) = (sP s c).countP (isS j) + (if isS j (a.1, 1, nI (pa_id (sP s c))) = true then 1 else 0) := by
    intro j
    have := cP_set (isS j) _ _ _ (a.1, 1, nI (pa_id (sP s c))) hi
    have f : isS j a = false := decide_eq_false (fun q => by rw [ha] at q; exact absurd q.1 (by decide))
    rw [f] at this; exact this
  have hu2 : pa_uw ((sP s c).set i (a.1, 1, nI (pa_id (sP s c)))) = pa_uw (sP s c) + 1 := by
    have := cP_set (fun x : hb_Pa => decide (¬ x.2.1 = 0)) _ _ _ (a.1, 1, nI (pa_id (sP s c))) hi
    rw [uw_cP, uw_cP]
    simp [ha] at this
    simp; exact this
  have hS2 : okS ((sP s c).set i (a.1, 1, nI (pa_id (sP s c)))) := by
    refine ⟨by rw [List.length_set]; exact hS.1, fun z hz => ?_, dst_set _ _ _ _ hi hid.2.2 hS.2.2.1, by rw [hu2]; omega⟩
    rcases List.mem_or_eq_of_mem_set hz with hz | rfl
    · exact hS.2.1 z hz
    · exact ⟨(hS.2.1 a hm).1, Or.inr ⟨Or.inl rfl, ⟨_, hid.1, by omega, rfl⟩⟩⟩
  have h1 : CI D L n x y (tP s c ((sP s c).set i (a.1, 1, nI (pa_id (sP s c))))) c := by
    refine CI_store hc hS2 ?_ H
    obtain ⟨l1, l2, l3, l4, l5, l6, l7⟩ := hK
    refine ⟨l1, l2, l3, fun j => ?_, l5, l6, l7⟩
    rw [sP_tP, cS]
    exact Nat.le_trans (l4 j) (Nat.le_add_right _ _)
  refine ⟨?_, by unfold M_cp1; exact (congrArg pa_uw (sP_tP s c _)).trans hu2⟩
  unfold M_cp1
  have hmm := (hS.2.1 a hm).1
  refine CI_up (oU_pub hmm.1 hmm.q ⟨_, by omega, rfl⟩ false) (by show ¬ (3 : Int32) = 1; decide) hat (fun j q => ⟨?_, ?_⟩) h1
  · show ¬ sI s 0 c = 1
    rw [h0]; decide
  · rw [sP_tP, cS]
    have e : isS j (a.1, 1, nI (pa_id (sP s c))) = true := by
      unfold isU M_pkt at q
      unfold isS
      simp at q ⊢
      exact ⟨q.1, q.2⟩
    rw [if_pos e]
    exact Nat.add_le_add_right (hK.2.2.2.1 j) 1
theorem fr_cp1 (s : hb_S) (c i : Nat) (x : hb_Pa) : fr c s (M_cp1 s c i x) := (fr_P0 _).tr (fr_up _ _ _)
theorem cp1_0 (s : hb_S) (c i : Nat) (x : hb_Pa) : sI (M_cp1 s c i x) = sI s := rfl
theorem CI_cpF {D n c : Nat} {x y : List hb_Pk} (hc : c < 3) : ∀ (k i L : Nat) (s : hb_S), CI D L n x y s c → CI D (L + k) n x y (M_cpF k i s c (pa_uw (sP s c))) c ∧ fr c s (M_cpF k i s c (pa_uw (sP s c))) := by
  intro k
  induction k with
  | zero => intro i L s H; exact ⟨H, fr.rf⟩
  | succ k ih =>
    intro i L s H
    rw [M_cpF]
    cases hi : (sP s c)[i]? with
    | none => exact ⟨H.mono (Nat.le_refl _) (by omega) (Nat.le_refl _), fr.rf⟩
    | some a =>
      show CI D (L + (k + 1)) n x y (if sI s 0 c = 2 ∧ pa_uw (sP s c) < 2 ∧ a.2.1 = 0 then M_cpF k (i + 1) (M_cp1 s c i a) c (pa_uw (sP s c) + 1) else M_cpF k (i + 1) s c (pa_uw (sP s c))) c ∧ fr c s (if sI s 0 c = 2 ∧ pa_uw (sP s c) < 2 ∧ a.2.1 = 0 then M_cpF k (i + 1) (M_cp1 s c i a) c (pa_uw (sP s c) + 1) else M_cpF k (i + 1) s c (pa_uw (sP s c)))
      split
      · rename_i q
        have h := CI_cp1 hc q.1 hi q.2.2 q.2.1 H
        have g := ih (i + 1) (L + 1) _ h.1
        rw [h.2] at g
        exact ⟨g.1.mono (Nat.le_refl _) (by omega) (Nat.le_refl _), (fr_cp1 s c i a).tr g.2⟩
      · have g := ih (i + 1) L s H
        exact ⟨g.1.mono (Nat.le_refl _) (by omega) (Nat.le_refl _), g.2⟩
theorem CI_cpump {D L n c : Nat} {x y : List hb_Pk} {s : hb_S} (hc : c < 3) (H : CI D L n x y s c) : CI D (L + 4) n x y (M_cpump s c) c ∧ fr c s (M_cpump s c) := by
  have g := CI_cpF hc (sP s c).length 0 L s H
  exact ⟨g.1.mono (Nat.le_refl _) (by have := H.2.2.2.1.1; omega) (Nat.le_refl _), g.2⟩
theorem LK_st {x y : List hb_Pk} {s : hb_S} {c : Nat} {ps : List hb_Pa} (h : ∀ i, (sP s c).countP (isS i) ≤ ps.countP (isS i)) (K : LK x y s c) : LK x y (tP s c ps) c := by
  obtain ⟨l1, l2, l3, l4, l5, l6, l7⟩ := K
  refine ⟨l1, l2, l3, fun j => ?_, l5, l6, l7⟩
  rw [sP_tP]
  exact Nat.le_trans (l4 j) (h j)
theorem CI_keep {D L n c : Nat} {x y : List hb_Pk} {s : hb_S} {m : hb_Ms} (hc : c < 3) (hm : oM m) (hl : (sP s c).length < 4) (H : CI D L n x y s c) : CI D (L + 4) n x y (M_keep s c m) c ∧ fr c s (M_keep s c m) := by
  have hS := H.2.2.2.1
  have h1 : CI D L n x y (tP s c (sP s c ++ [(m, 0, 0)])) c := by
    refine CI_store hc ⟨by rw [List.length_append]; show (sP s c).length + 1 ≤ 4; omega, fun z hz => ?_, ?_, ?_⟩ (LK_st (fun i => by rw [List.countP_append]; omega) H.2.2.1) H
    · rcases List.mem_append.mp hz with hz | hz
      · exact hS.2.1 z hz
      · rw [List.mem_singleton.mp hz]; exact ⟨hm, Or.inl ⟨rfl, rfl⟩⟩
    · unfold dst
      rw [List.pairwise_append]
      refine ⟨hS.2.2.1, List.pairwise_singleton _ _, fun a ha b hb => ?_⟩
      rw [List.mem_singleton.mp hb]
      by_cases e : a.2.2 = 0
      · exact Or.inl e
      · exact Or.inr e
    · rw [uw_cP, cP_app, ← uw_cP]; simp; exact hS.2.2.2
  have g := CI_cpump hc h1
  exact ⟨g.1, (fr_P0 _).tr g.2⟩
theorem CI_attY {D L n c : Nat} {x y : List hb_Pk} {s : hb_S} {p : hb_Pk} (H : CI D L n x (p :: y) s c) : ¬ sI s 1 c = 0 := fun q => by
  have := (H.2.2.1.2.1 q).1; simp at this
theorem S_le1 {ps : List hb_Pa} (h : ∀ x, x ∈ ps → oP x) (d : dst ps) (i : Int32) : ps.countP (isS i) ≤ 1 := by
  induction ps with
  | nil => exact Nat.zero_le _
  | cons a ps ih =>
    unfold dst at d
    rw [List.pairwise_cons] at d
    have g := ih (fun x hx => h x (List.mem_cons_of_mem _ hx)) d.2
    rw [List.countP_cons]
    by_cases q : isS i a = true
    · rw [if_pos q]
      have : ps.countP (isS i) = 0 := by
        rw [List.countP_eq_zero]
        intro z hz w
        have e1 := of_decide_eq_true q
        have e2 := of_decide_eq_true w
        rcases d.1 z hz with e | e
        · rcases (h a List.mem_cons_self).2 with ⟨b1, _⟩ | ⟨_, b⟩
          · rw [e1.1] at b1; exact absurd b1 (by decide)
          · exact b.n0 e
        · exact e (e1.2.2.trans e2.2.2.symm)
      omega
    · rw [if_neg q]; exact g
theorem oU_rp {x : hb_Pa} (h : oP x) (h0 : ¬ x.2.1 = 0) : oU (pa_rp x) ∧ ¬ (pa_rp x).1 = 1 ∧ ∀ i, isU i (pa_rp x) = isS i x := by
  have hi := h.i
  unfold pa_rp; split
  · rename_i q
    refine ⟨oU_pub (m := (x.1.1, x.1.2.1, x.1.2.2.1, x.1.2.2.2)) h.1.1 h.1.q hi true, by show ¬ (3 : Int32) = 1; decide, fun i => ?_⟩
    unfold isU isS; simp [q]
  · rename_i q
    refine ⟨⟨Or.inr (Or.inr (Or.inl rfl)), fun e => absurd e (by show ¬ (6 : Int32) = 1; decide), fun e => absurd e (by show ¬ (6 : Int32) = 3; decide), fun e => absurd e (by show ¬ (6 : Int32) = 8; decide), fun e => absurd e (by show ¬ (6 : Int32) = 10; decide), fun _ => hi, fun e => absurd e (by show ¬ (6 : Int32) = 5; decide)⟩, by show ¬ (6 : Int32) = 1; decide, fun i => ?_⟩
    unfold isU isS; simp [q]
theorem CI_saF {D n c : Nat} : ∀ (B : List hb_Pa) (L : Nat) (s : hb_S), (∀ a, a ∈ B → oP a) → sI s 0 c = 2 → (∀ i, (sN s (2 * c)).countP (isU i) + (sN s (2 * c + 1)).countP (isR i) + B.countP (isS i) ≤ (sP s c).countP (isS i)) → CI D L n [] [] s c → CI D (L + B.length) n [] [] (M_saF B s c) c ∧ fr c s (M_saF B s c) := by
  intro B
  induction B with
  | nil => intro L s _ _ _ H; exact ⟨H, fr.rf⟩
  | cons b B ih =>
    intro L s hB h0 hr H
    rw [M_saF]
    have hat := H.2.2.1.2.2.2.2.2.2 h0
    have hb := hB b List.mem_cons_self
    have hB' : ∀ a, a ∈ B → oP a := fun a ha => hB a (List.mem_cons_of_mem _ ha)
    by_cases q : b.2.1 = 0
    · rw [if_pos q]
      have g := ih L s hB' h0 (fun i => by
        have := hr i
        rw [List.countP_cons] at this
        omega) H
      exact ⟨g.1.mono (Nat.le_refl _) (by rw [List.length_cons]; omega) (Nat.le_refl _), g.2⟩
    · rw [if_neg q]
      obtain ⟨u1, u2, u3⟩ := oU_rp hb q
      have e0 : sN (M_up s c (pa_rp b)) (2 * c) = sN s (2 * c) ++ [pa_rp b] := sN_tN _ _ _
      have e1 : sN (M_up s c (pa_rp b)) (2 * c + 1) = sN s (2 * c + 1) := by unfold M_up; simp only [sN, tN]; exact va_up_ne _ _ (by omega)
      have h1 := CI_up u1 u2 hat (fun i w => ⟨by rw [h0]; decide, by
        have := hr i
        rw [List.countP_cons, ← u3 i, if_pos w] at this
        simp only [List.nil_append]
        omega⟩) H
      have g := ih (L + 1) (M_up s c (pa_rp b)) hB' h0 (fun i => by
        rw [e0, e1, cP_app, u3 i]
        have := hr i
        rw [List.countP_cons] at this
        show _ ≤ (sP s c).countP (isS i)
        omega) h1
      exact ⟨g.1.mono (Nat.le_refl _) (by rw [List.length_cons]; omega) (Nat.le_refl _), (fr_up _ _ _).tr g.2⟩
theorem so_mem {ps : List hb_Pa} {a : hb_Pa} (h : a ∈ pa_so ps) : ∃ b, b ∈ ps ∧ a = (b.1, 0, 0) := by
  unfold pa_so at h
  obtain ⟨b, hb, e⟩ := List.mem_map.mp h
  exact ⟨b, (List.mem_filter.mp hb).1, e.symm⟩
theorem okS_so {ps : List hb_Pa} (h : okS ps) : okS (pa_so ps) := by
  refine ⟨?_, fun x hx => ?_, ?_, ?_⟩
  · unfold pa_so; rw [List.length_map]; exact Nat.le_trans (List.length_filter_le _ _) h.1
  · obtain ⟨b, hb, rfl⟩ := so_mem hx; exact ⟨(h.2.1 b hb).1, Or.inl ⟨rfl, rfl⟩⟩
  · unfold dst
    rw [List.pairwise_iff_forall_sublist]
    intro a b hs
    obtain ⟨d, _, rfl⟩ := so_mem (hs.subset List.mem_cons_self)
    exact Or.inl rfl
  · unfold pa_uw
    rw [List.filter_eq_nil_iff.mpr (fun a ha => by obtain ⟨d, _, rfl⟩ := so_mem ha; simp)]
    exact Nat.zero_le _
-- state becomes 2: the CONNACK in hand
theorem CI_st2 {D L n c : Nat} {s : hb_S} {p : hb_Pk} (h2 : p.1 = 2) (H : CI D L n [] [p] s c) : CI D L n [] [] (tI s 0 c 2) c ∧ ∀ i, (sN s (2 * c)).countP (isU i) + (sN s (2 * c + 1)).countP (isR i) = 0 := by
  have hat := CI_attY H
  obtain ⟨a, b, ⟨l1, l2, l3, l4, l5, l6, l7⟩, s4, k5, k6, k7⟩ := H
  have iK : isK p = true := decide_eq_true h2
  have cK : ([p] ++ sN s (2 * c + 1)).countP isK = (sN s (2 * c + 1)).countP isK + 1 := by rw [List.singleton_append, List.countP_cons, iK]; rfl
  rw [cK] at l3
  have h0 : sI s 0 c = 1 := by
    apply Classical.byContradiction
    intro q; rw [if_neg q] at l3; omega
  rw [if_pos h0] at l3
  have nR : ∀ i, isR i p = false := fun i => decide_eq_false (fun q => absurd (h2.symm.trans q.1) (by decide))
  have cU : ∀ i, (sN s (2 * c)).countP (isU i) + (sN s (2 * c + 1)).countP (isR i) = 0 := fun i => by
    have := l5 h0 i
    rw [List.singleton_append, List.countP_cons, nR i, List.nil_append] at this
    exact this
  have e2 : sI (tI s 0 c 2) 0 c = 2 := by simp [st_a]
  refine ⟨⟨a, b, ⟨fun q => ?_, fun q => absurd q hat, ?_, fun i => ?_, fun q => ?_, fun _ => ?_, fun _ => hat⟩, s4, k5, k6, k7⟩, cU⟩
  · rw [e2] at q; exact absurd q (by decide)
  · rw [e2, if_neg (by decide)]
    show (sN s (2 * c)).countP isC + (sN s (2 * c + 1)).countP isK ≤ 0
    rw [List.nil_append] at l3
    omega
  · show ([] ++ sN s (2 * c)).countP (isU i) + ([] ++ sN s (2 * c + 1)).countP (isR i) ≤ _
    rw [List.nil_append, List.nil_append, cU i]; exact Nat.zero_le _
  · rw [e2] at q; exact absurd q (by decide)
  · exact l6 hat
theorem CI_ack {D n c : Nat} {s : hb_S} {p : hb_Pk} {va : Int32} (hc : c < 3) (h2 : p.1 = 2) (H : CI D 11 n [] [p] s c) : CI D 19 n [] [] (M_ack s c va) c ∧ fr c s (M_ack s c va) := by
  obtain ⟨h1, cU⟩ := CI_st2 h2 H
  have hS := H.2.2.2.1
  unfold M_ack; split
  · have h4 : CI D 11 n [] [] (tI (tI s 0 c 2) 4 c 0) c := CI_4 ⟨0, by decide, rfl⟩ h1
    have h5 : CI D 11 n [] [] (tP (tI (tI s 0 c 2) 4 c 0) c (pa_so (sP s c))) c := by
      refine CI_store hc (okS_so hS) ?_ h4
      obtain ⟨l1, l2, l3, l4, l5, l6, l7⟩ := h4.2.2.1
      refine ⟨l1, l2, l3, fun i => ?_, l5, l6, l7⟩
      show ([] ++ sN s (2 * c)).countP (isU i) + ([] ++ sN s (2 * c + 1)).countP (isR i) ≤ _
      rw [List.nil_append, List.nil_append, cU i]; exact Nat.zero_le _
    have g := CI_cpump hc h5
    exact ⟨g.1.mono (Nat.le_refl _) (by decide) (Nat.le_refl _), ((fr_I 0 2).tr ((fr_I 4 0).tr (fr_P0 _))).tr g.2⟩
  · have g := CI_saF (sP s c) 11 (tI s 0 c 2) hS.2.1 (by simp [st_a]) (fun i => by
      show (sN s (2 * c)).countP (isU i) + (sN s (2 * c + 1)).countP (isR i) + (sP s c).countP (isS i) ≤ (sP s c).countP (isS i)
      rw [cU i]; omega) h1
    have g2 := CI_cpump hc g.1
    exact ⟨g2.1.mono (Nat.le_refl _) (by have := hS.1; omega) (Nat.le_refl _), ((fr_I 0 2).tr g.2).tr g2.2⟩
theorem CI_n {D L n c : Nat} {x y : List hb_Pk} {s : hb_S} {v : Int32} {N : Nat} (hv : ∃ k, k ≤ N ∧ v = nI k) (H : CI D L n x y s c) : CI D L N x y (tI s 2 c v) c := by
  obtain ⟨a, b, l, s4, k5, k6, c1, c2, c3, c4, c5, c6, c7, c8, c9, c10⟩ := H
  obtain ⟨k, h1, h2⟩ := hv
  exact ⟨a, b, l, s4, k5, k6, c1, c2, c3, c4, c5, c6, ⟨k, h1, by rw [← h2]; simp [st_a]⟩, c8, c9, c10⟩
theorem CI_put {D L n c : Nat} {x y : List hb_Pk} {s : hb_S} {v : Int32} (H : CI D L n x y s c) : CI D L (n + 1) x y (M_put s c v) c ∧ fr c s (M_put s c v) := by
  obtain ⟨k, hk, ek⟩ := H.2.2.2.2.2.2.2.2.2.2.2.2.1
  have e : ∃ k, k ≤ n + 1 ∧ sI s 2 c + 1 = nI k := ⟨k + 1, by omega, by rw [ek, nI_1]⟩
  unfold M_put; split
  · exact ⟨CI_n (s := tX s c _) e H, (fr_X _).tr (fr_I 2 _)⟩
  · exact ⟨CI_n e H, fr_I 2 _⟩
theorem oU_t {t id v : Int32} (h : t = 4 ∨ t = 5 ∨ t = 7 ∨ t = 12 ∨ t = 14) (hi : t = 5 → idr id) : oU (mkp t id v) ∧ ¬ (mkp t id v).1 = 1 ∧ ∀ i, isU i (mkp t id v) = false := by
  refine ⟨⟨?_, ?_, ?_, ?_, ?_, ?_, fun e => hi e⟩, ?_, fun i => decide_eq_false (fun q => ?_)⟩
  · show t = 1 ∨ t = 3 ∨ t = 6 ∨ t = 4 ∨ t = 5 ∨ t = 7 ∨ t = 8 ∨ t = 10 ∨ t = 12 ∨ t = 14
    rcases h with h | h | h | h | h <;> simp [h]
  all_goals first | (intro e; change t = _ at e) | (have e := q.1; change t = _ at e)
  all_goals (rcases h with h | h | h | h | h <;> (rw [h] at e; exact absurd e (by decide)))
theorem CI_upT {D L n c : Nat} {x y : List hb_Pk} {s : hb_S} {t id v : Int32} (h : t = 4 ∨ t = 5 ∨ t = 7 ∨ t = 12 ∨ t = 14) (hi : t = 5 → idr id) (hat : ¬ sI s 1 c = 0) (H : CI D L n x y s c) : CI D (L + 1) n x y (M_up s c (mkp t id v)) c := by
  obtain ⟨a, b, d⟩ := oU_t (v := v) h hi
  exact CI_up0 a b hat d H
theorem CI_up6 {D L n c : Nat} {x y : List hb_Pk} {s : hb_S} {id v : Int32} (hi : idr id) (hat : ¬ sI s 1 c = 0) (H : CI D L n x y s c) : CI D (L + 1) n x y (M_up s c (mkp 6 id v)) c := CI_up0 ⟨Or.inr (Or.inr (Or.inl rfl)), fun e => absurd e (by show ¬ (6 : Int32) = 1; decide), fun e => absurd e (by show ¬ (6 : Int32) = 3; decide), fun e => absurd e (by show ¬ (6 : Int32) = 8; decide), fun e => absurd e (by show ¬ (6 : Int32) = 10; decide), fun _ => hi, fun e => absurd e (by show ¬ (6 : Int32) = 5; decide)⟩ (by show ¬ (6 : Int32) = 1; decide) hat (fun i => decide_eq_false (fun q => absurd q.1 (by show ¬ (6 : Int32) = 3; decide))) H
theorem att_put (s : hb_S) (c : Nat) (id va qu : Int32) : sI (M_crp0 s c id va qu) 1 c = sI s 1 c ∧ sI (M_crp0 s c id va qu) 4 c = sI s 4 c := by
  unfold M_crp0 M_put
  split
  · split
    · exact ⟨by simp [st_a], by simp [st_a]⟩
    · exact ⟨by simp [st_a], by simp [st_a]⟩
  · exact ⟨rfl, rfl⟩
theorem CI_crp {D n c : Nat} {s : hb_S} {p : hb_Pk} {id va qu : Int32} (hi : idr id) (H : CI D 11 n [] [p] s c) : CI D 12 (n + 1) [] [] (M_crp1 (M_crp0 s c id va qu) c id qu) c ∧ fr c s (M_crp1 (M_crp0 s c id va qu) c id qu) := by
  have hat := CI_attY H
  have H0 := CI_dropY H
  have h1 : CI D 11 (n + 1) [] [] (M_crp0 s c id va qu) c ∧ fr c s (M_crp0 s c id va qu) := by
    unfold M_crp0; split
    · exact CI_put H0
    · exact ⟨H0.mono (Nat.le_refl _) (Nat.le_refl _) (by omega), fr.rf⟩
  obtain ⟨a1, a4⟩ := att_put s c id va qu
  generalize M_crp0 s c id va qu = t at h1 a1 a4 ⊢
  have hat' : ¬ sI t 1 c = 0 := by rw [a1]; exact hat
  unfold M_crp1; split
  · exact ⟨CI_upT (Or.inl rfl) (fun e => absurd e (by decide)) hat' h1.1, h1.2.tr (fr_up _ _ _)⟩
  · split
    · refine ⟨CI_upT (Or.inr (Or.inl rfl)) (fun _ => hi) hat' (CI_4 ?_ h1.1), h1.2.tr ((fr_I 4 _).tr (fr_up _ _ _))⟩
      obtain ⟨k, hk, ek⟩ := h1.1.2.2.2.2.2.2.2.2.2.2.1
      obtain ⟨i, hi1, ei⟩ := hi
      rw [ek, ei]; exact h_add hk hi1
    · exact ⟨h1.1.mono (Nat.le_refl _) (by decide) (Nat.le_refl _), h1.2⟩
theorem CI_crl {D L n c : Nat} {s : hb_S} {p : hb_Pk} {id : Int32} (hi : idr id) (H : CI D L n [] [p] s c) : CI D (L + 1) n [] [] (M_crl s c id) c ∧ fr c s (M_crl s c id) := by
  have hat := CI_attY H
  have H0 := CI_dropY H
  unfold M_crl
  refine ⟨CI_upT (Or.inr (Or.inr (Or.inl rfl))) (fun e => absurd e (by decide)) hat (CI_4 ?_ H0), (fr_I 4 _).tr (fr_up _ _ _)⟩
  obtain ⟨k, hk, ek⟩ := H0.2.2.2.2.2.2.2.2.2.2.1
  obtain ⟨i, hi1, ei⟩ := hi
  rw [ek, ei]; exact h_rem hk hi1
theorem okS_fin {ps : List hb_Pa} (h : okS ps) (id q st : Int32) : okS (pa_fin ps id q st) := by
  refine ⟨Nat.le_trans (pa_fin_len _ _ _ _) h.1, fun x hx => h.2.1 x (List.mem_filter.mp hx).1, dst_sub List.filter_sublist h.2.2.1, ?_⟩
  rw [uw_cP]
  refine Nat.le_trans ?_ h.2.2.2
  rw [uw_cP]
  exact List.Sublist.countP_le List.filter_sublist
theorem fin_S (ps : List hb_Pa) (id q st i : Int32) (h : ¬ (id = i ∧ q = 2 ∧ st = 1)) : (pa_fin ps id q st).countP (isS i) = ps.countP (isS i) := by
  unfold pa_fin
  rw [List.countP_filter]
  apply List.countP_congr
  intro x _
  constructor
  · intro w; simp only [Bool.and_eq_true] at w; exact w.1
  · intro w
    simp only [Bool.and_eq_true]
    refine ⟨w, ?_⟩
    have e := of_decide_eq_true w
    have : pa_fm id q st x = false := decide_eq_false (fun z => h ⟨z.1.symm.trans e.2.2, z.2.1.symm.trans e.2.1, z.2.2.symm.trans e.1⟩)
    rw [this]; rfl
theorem CI_finC {D L n c : Nat} {s : hb_S} {p : hb_Pk} (hc : c < 3) (id q st : Int32) (h : ¬ (q = 2 ∧ st = 1)) (H : CI D L n [] [p] s c) : CI D L n [] [] (tP s c (pa_fin (sP s c) id q st)) c := by
  have H0 := CI_dropY H
  exact CI_store hc (okS_fin H0.2.2.2.1 _ _ _) (LK_st (fun i => by rw [fin_S _ _ _ _ _ (fun z => h z.2)]; exact Nat.le_refl _) H0.2.2.1) H0
theorem rel_S : ∀ (ps : List hb_Pa) (id i : Int32), ¬ i = id → (pa_rel ps id).1.countP (isS i) = ps.countP (isS i) := by
  intro ps
  induction ps with
  | nil => intro id i _; rfl
  | cons x r ih =>
    intro id i h
    rw [pa_rel]
    split
    · rename_i q
      show ((x.1, 2, x.2.2) :: r).countP (isS i) = _
      rw [List.countP_cons, List.countP_cons]
      have e1 : isS i (x.1, 2, x.2.2) = false := decide_eq_false (fun z => absurd z.1 (by show ¬ (2 : Int32) = 1; decide))
      have e2 : isS i x = false := decide_eq_false (fun z => h (z.2.2.symm.trans q.1))
      rw [e1, e2]
    · show (x :: (pa_rel r id).1).countP (isS i) = _
      rw [List.countP_cons, List.countP_cons, ih id i h]
theorem okS_rel {ps : List hb_Pa} (h : okS ps) (id : Int32) : okS (pa_rel ps id).1 := by
  refine ⟨by rw [pa_rel_len]; exact h.1, fun x hx => ?_, dst_ids (rel_ids _ _) h.2.2.1, ?_⟩
  · rcases rel_mem _ _ _ hx with hx | ⟨b, hb, rfl, h1, h2⟩
    · exact h.2.1 x hx
    · rcases (h.2.1 b hb).2 with ⟨e, _⟩ | ⟨_, e⟩
      · exact absurd e h2
      · exact ⟨(h.2.1 b hb).1, Or.inr ⟨Or.inr ⟨rfl, h1⟩, e⟩⟩
  · have : ∀ l : List hb_Pa, pa_uw (pa_rel l id).1 = pa_uw l := by
      intro l
      induction l with
      | nil => rfl
      | cons x r ih =>
        rw [pa_rel]
        split
        · rename_i q
          rw [uw_cP, uw_cP]
          show ((x.1, 2, x.2.2) :: r).countP _ = _
          rw [List.countP_cons, List.countP_cons]
          simp [q.2.2]
        · rw [uw_cP, uw_cP] at *
          show (x :: (pa_rel r id).1).countP _ = _
          rw [List.countP_cons, List.countP_cons, ih]
    rw [this]; exact h.2.2.2
-- the PUBREC in hand: nothing else speaks of its id
theorem rec_0 {D L n c : Nat} {s : hb_S} {p : hb_Pk} (h5 : p.1 = 5) (H : CI D L n [] [p] s c) : (sN s (2 * c)).countP (isU p.2.1) + (sN s (2 * c + 1)).countP (isR p.2.1) = 0 := by
  have hS := H.2.2.2.1
  have l4 := H.2.2.1.2.2.2.1 p.2.1
  have := S_le1 hS.2.1 hS.2.2.1 p.2.1
  have e : isR p.2.1 p = true := decide_eq_true ⟨h5, rfl⟩
  rw [List.singleton_append, List.countP_cons, if_pos e, List.nil_append] at l4
  omega
theorem CI_recS {D L n c : Nat} {s : hb_S} {p : hb_Pk} {ps : List hb_Pa} (hc : c < 3) (h5 : p.1 = 5) (hS : okS ps) (hn : ∀ i, ¬ i = p.2.1 → (sP s c).countP (isS i) ≤ ps.countP (isS i)) (H : CI D L n [] [p] s c) : CI D L n [] [] (tP s c ps) c := by
  have z := rec_0 h5 H
  have H0 := CI_dropY H
  refine CI_store hc hS ?_ H0
  obtain ⟨l1, l2, l3, l4, l5, l6, l7⟩ := H0.2.2.1
  refine ⟨l1, l2, l3, fun i => ?_, l5, l6, l7⟩
  rw [sP_tP]
  by_cases e : i = p.2.1
  · rw [e]
    show ([] ++ sN s (2 * c)).countP (isU p.2.1) + ([] ++ sN s (2 * c + 1)).countP (isR p.2.1) ≤ _
    rw [List.nil_append, List.nil_append, z]; exact Nat.zero_le _
  · exact Nat.le_trans (l4 i) (hn i e)
theorem CI_crc {D L n c : Nat} {s : hb_S} {p : hb_Pk} {va : Int32} (hc : c < 3) (h5 : p.1 = 5) (hi : idr p.2.1) (H : CI D L n [] [p] s c) : CI D (L + 1) n [] [] (M_crc s c p.2.1 va) c ∧ fr c s (M_crc s c p.2.1 va) := by
  have hat := CI_attY H
  have hS := H.2.2.2.1
  unfold M_crc; split
  · exact ⟨(CI_recS hc h5 (okS_fin hS _ _ _) (fun i e => by rw [fin_S _ _ _ _ _ (fun z => e z.1.symm)]; exact Nat.le_refl _) H).mono (Nat.le_refl _) (by omega) (Nat.le_refl _), fr_P0 _⟩
  · have h := CI_recS hc h5 (okS_rel hS p.2.1) (fun i e => by rw [rel_S _ _ _ e]; exact Nat.le_refl _) H
    split
    · exact ⟨CI_up6 hi hat h, (fr_P0 _).tr (fr_up _ _ _)⟩
    · exact ⟨h.mono (Nat.le_refl _) (by omega) (Nat.le_refl _), fr_P0 _⟩
theorem CI_crv {D n c : Nat} {s : hb_S} {p : hb_Pk} (hc : c < 3) (hp : oD p) (H : CI D 11 n [] [p] s c) : CI D 19 (n + 1) [] [] (M_crv s c p) c ∧ fr c s (M_crv s c p) := by
  obtain ⟨ty, id, va, tx, qu, ag, mr, wi, ke, wv⟩ := p
  have mo : ∀ {L : Nat} {t : hb_S}, L ≤ 19 → CI D L n [] [] t c → CI D 19 (n + 1) [] [] t c := fun h g => g.mono (Nat.le_refl _) h (by omega)
  rcases hp.1 with h | h | h | h | h | h | h | h | h
  all_goals (change ty = _ at h; subst h)
  · have g := CI_ack (va := va) hc rfl H
    exact ⟨mo (Nat.le_refl _) g.1, g.2⟩
  · have g := CI_crp (id := id) (va := va) (qu := qu) (hp.2.1 rfl).2 H
    exact ⟨g.1.mono (Nat.le_refl _) (by decide) (Nat.le_refl _), g.2⟩
  · have g := CI_crl (id := id) (hp.2.2.1 rfl) H
    exact ⟨mo (by decide) g.1, g.2⟩
  · have g := CI_cpump hc (CI_finC hc id 1 1 (by decide) H)
    exact ⟨mo (by decide) g.1, (fr_P0 _).tr g.2⟩
  · have g := CI_crc (va := va) hc rfl (hp.2.2.2 rfl) H
    have g2 := CI_cpump hc g.1
    exact ⟨mo (by decide) g2.1, g.2.tr g2.2⟩
  · have g := CI_cpump hc (CI_finC hc id 2 2 (by decide) H)
    exact ⟨mo (by decide) g.1, (fr_P0 _).tr g.2⟩
  all_goals exact ⟨mo (by decide) (CI_dropY H), fr.rf⟩
def INV (n : Nat) (s : hb_S) : Prop := AI (fun _ => 13) (fun _ => 19) n (fun _ => []) (fun _ => []) s ∧ RI s
theorem INV.ci {n c : Nat} {s : hb_S} (hc : c < 3) (H : INV n s) : CI 13 19 n [] [] s c := H.1 c hc
theorem up1_nil (c : Nat) : up1 (fun _ => []) c [] = fun _ => [] := by
  funext j; unfold up1; split <;> rfl
theorem INV.hi {n : Nat} {s : hb_S} (c : Nat) (H : INV n s) : HI 13 19 n c [] [] s := by
  unfold HI; rw [up1_nil]
  refine ⟨fun j hj => ?_, H.2⟩
  have := H.1 j hj
  unfold Dc; simp only [ite_self]; exact this
theorem HI.inv {n c : Nat} {s : hb_S} (H : HI 13 19 n c [] [] s) : INV n s := by
  unfold HI at H; rw [up1_nil] at H
  refine ⟨fun j hj => ?_, H.2⟩
  have := H.1 j hj
  unfold Dc at this; simp only [ite_self] at this; exact this
theorem INV.mono {n n' : Nat} {s : hb_S} (H : INV n s) (h : n ≤ n') : INV n' s := ⟨fun j hj => (H.1 j hj).mono (Nat.le_refl _) (Nat.le_refl _) h, H.2⟩
theorem INV_one {n n' c : Nat} {s s' : hb_S} (hc : c < 3) (hn : n ≤ n') (F : fr c s s') (H : INV n s) (h : CI 13 19 n [] [] s c → CI 13 19 n' [] [] s' c) : INV n' s' := by
  refine ⟨fun j hj => ?_, RI_fr hc F H.2⟩
  by_cases e : j = c
  · rw [e]; exact h (H.1 c hc)
  · exact (CI_fr F hj hc e (H.1 j hj)).mono (Nat.le_refl _) (Nat.le_refl _) hn
theorem CI_len {D L n c : Nat} {x y : List hb_Pk} {s : hb_S} (H : CI D L n x y s c) {L' : Nat} (h : (sN s (2 * c)).length ≤ L') : CI D L' n x y s c := by
  obtain ⟨a, r⟩ := H; exact ⟨⟨a.1, h⟩, r⟩
theorem CI_takeU {D L n c : Nat} {s : hb_S} {p : hb_Pk} {r : List hb_Pk} (e : sN s (2 * c) = p :: r) (H : CI D L n [] [] s c) : CI D L n [p] [] (tN s (2 * c) r) c ∧ oU p := by
  obtain ⟨a, b, ⟨l1, l2, l3, l4, l5, l6, l7⟩, s4, k5, k6, k7⟩ := H
  have e0 : sN (tN s (2 * c) r) (2 * c) = r := sN_tN _ _ _
  have e1 : sN (tN s (2 * c) r) (2 * c + 1) = sN s (2 * c + 1) := by simp only [sN, tN]; exact va_up_ne _ _ (by omega)
  rw [e] at a l1 l2 l3 l4 l5 l6
  refine ⟨⟨⟨fun q hq => a.1 q (List.mem_cons_of_mem _ (by rw [e0] at hq; exact hq)), by rw [e0]; have := a.2; rw [List.length_cons] at this; omega⟩, by rw [e1]; exact b, ?_, s4, k5, ?_, k7⟩, a.1 p List.mem_cons_self⟩
  · unfold LK
    rw [e0, e1]
    exact ⟨fun q => absurd (l1 q).1 (List.cons_ne_nil _ _), l2, l3, l4, l5, l6, l7⟩
  · unfold ba at k6 ⊢; rw [e1]; exact k6
theorem CI_takeD {D L n c : Nat} {s : hb_S} {p : hb_Pk} {r : List hb_Pk} (e : sN s (2 * c + 1) = p :: r) (H : CI D L n [] [] s c) : CI D L n [] [p] (tN s (2 * c + 1) r) c ∧ oD p := by
  obtain ⟨a, b, ⟨l1, l2, l3, l4, l5, l6, l7⟩, s4, k5, k6, k7⟩ := H
  have e1 : sN (tN s (2 * c + 1) r) (2 * c + 1) = r := sN_tN _ _ _
  have e0 : sN (tN s (2 * c + 1) r) (2 * c) = sN s (2 * c) := by simp only [sN, tN]; exact va_up_ne _ _ (by omega)
  rw [e] at b l2 l3 l4 l5
  refine ⟨⟨by rw [e0]; exact a, fun q hq => b q (List.mem_cons_of_mem _ (by rw [e1] at hq; exact hq)), ?_, s4, k5, ?_, k7⟩, b p List.mem_cons_self⟩
  · unfold LK
    rw [e0, e1]
    exact ⟨l1, l2, l3, l4, l5, l6, l7⟩
  · have := k6.2.2.1
    rw [e, List.length_cons] at this
    unfold ba at k6 ⊢; rw [e1]; exact ⟨k6.1, k6.2.1, by show r.length ≤ D + (sP s (3 + c)).length; omega, k6.2.2.2⟩
theorem tpc_read {t : Int64} (h : tx_tg (tx_read t) 8 0 = true) : tpc (tx_read t) := ⟨read_read t, h⟩
theorem ftr_read {t : Int64} (h : tx_fg (tx_read t) 8 0 = true) : ftr (tx_read t) := ⟨read_read t, h⟩
theorem INV_will {n c : Nat} {s : hb_S} (hc : c < 3) (t : Int64) (v : Int32) (H : INV n s) : INV n (H_will s c t v).1 := by
  unfold H_will
  by_cases h : ¬ t = 0 ∧ tx_tg (tx_read t) 8 0 = false
  · rw [if_pos h]; exact H
  · rw [if_neg h]
    refine INV_one hc (Nat.le_refl _) ((fr_J 0 _).tr (fr_I 3 _)) H (fun g => ?_)
    obtain ⟨a, b, l, s4, k5, k6, c1, c2, c3, c4, c5, c6, c7, c8, c9, c10⟩ := g
    refine ⟨a, b, l, s4, k5, k6, c1, c2, c3, c4, c5, c6, c7, ?_, c9, c10⟩
    have e : sJ (tI (tJ s 0 c (tx_read t)) 3 c v) 0 c = tx_read t := by simp [st_a]
    rw [e]
    by_cases h0 : t = 0
    · left; rw [h0]; decide +kernel
    · right
      refine tpc_read ?_
      cases q : tx_tg (tx_read t) 8 0 with
      | true => rfl
      | false => exact absurd ⟨h0, q⟩ h
theorem oU_con {ex : Int32} {t : Int64} {cl : Bool} {wi ke wv : Int32} (h1 : 0 ≤ ex ∧ ex ≤ 50) (h2 : 1 ≤ wi ∧ wi ≤ 3) (h3 : 0 ≤ ke ∧ ke ≤ 20) (ht : t = 0 ∨ tpc t) : oU (1, 0, ex, t, 0, false, cl, wi, ke, wv) := ⟨Or.inl rfl, fun _ => ⟨h1, h2.2, h3.1, ht⟩, fun e => absurd e (by show ¬ (1 : Int32) = 3; decide), fun e => absurd e (by show ¬ (1 : Int32) = 8; decide), fun e => absurd e (by show ¬ (1 : Int32) = 10; decide), fun e => absurd e (by show ¬ (1 : Int32) = 6; decide), fun e => absurd e (by show ¬ (1 : Int32) = 5; decide)⟩
theorem INV_con {n c : Nat} {s : hb_S} (hc : c < 3) (cl : Bool) (ex wi ke : Int32) (H : INV n s) : INV n (H_con s c cl ex wi ke).1 := by
  unfold H_con
  split
  · rename_i h
    refine INV_one hc (Nat.le_refl _) ((fr_I 0 1).tr (fr_up _ _ _)) H (fun g => ?_)
    obtain ⟨a, b, ⟨l1, l2, l3, l4, l5, l6, l7⟩, s4, k5, k6, k7⟩ := g
    have u := (l1 h.1).1
    have at0 := (l1 h.1).2
    have d := (l2 at0).1
    rw [List.nil_append] at d
    have hp := oU_con (cl := cl) (wv := sI s 3 c) h.2.1 h.2.2.1 h.2.2.2 k7.2.2.2.2.2.2.2.1
    have e0 : sN (M_open s c cl ex wi ke) (2 * c) = [(1, 0, ex, sJ s 0 c, 0, false, cl, wi, ke, sI s 3 c)] := by
      refine (sN_tN (tI s 0 c 1) (2 * c) _).trans ?_
      show sN s (2 * c) ++ _ = _
      rw [u]; rfl
    have e1 : sN (M_open s c cl ex wi ke) (2 * c + 1) = sN s (2 * c + 1) := by unfold M_open M_up; simp only [sN, tN, tI]; exact va_up_ne _ _ (by omega)
    have e2 : sI (M_open s c cl ex wi ke) 0 c = 1 := by unfold M_open M_up; simp [st_a]
    have e3 : sI (M_open s c cl ex wi ke) 1 c = 0 := at0
    have fU : ∀ i, isU i (1, 0, ex, sJ s 0 c, 0, false, cl, wi, ke, sI s 3 c) = false := fun i => decide_eq_false (fun q => absurd q.1 (by show ¬ (1 : Int32) = 3; decide))
    refine ⟨⟨fun q hq => ?_, ?_⟩, by rw [e1]; exact b, ?_, s4, k5, ?_, k7⟩
    · rw [e0] at hq; rw [List.mem_singleton.mp hq]; exact hp
    · rw [e0]; show 1 ≤ 19; decide
    · unfold LK
      rw [e0, e1, e2, e3, d]
      refine ⟨fun q => absurd q (by decide), fun _ => ⟨rfl, fun p hp => ?_⟩, by rw [if_pos rfl]; simp [isC], fun i => ?_, fun _ i => ?_, fun q => absurd rfl q, fun q => absurd q (by decide)⟩
      · rw [List.nil_append] at hp; rw [List.mem_singleton.mp hp]
      · simp only [List.nil_append, List.countP_singleton, fU i, List.countP_nil]; simp
      · simp only [List.nil_append, List.countP_singleton, fU i, List.countP_nil]; simp
    · unfold ba at k6 ⊢; rw [e1]; exact k6
  · exact H
theorem INV_drop {n c : Nat} {s : hb_S} (hc : c < 3) (H : INV n s) : INV n (H_drop s c).1 := by
  unfold H_drop; split
  · exact H
  · exact INV_one hc (Nat.le_refl _) (fr_close s c) H (fun g => CI_close g)
theorem cs_ok {s : hb_S} {c : Nat} (h : cs s c = true) : sI s 0 c = 2 ∧ (sN s (2 * c)).length < 12 := of_decide_eq_true h
theorem CI_s2 {D L n c : Nat} {x y : List hb_Pk} {s : hb_S} (H : CI D L n x y s c) (h : sI s 0 c = 2) : ¬ sI s 1 c = 0 := H.2.2.1.2.2.2.2.2.2 h
theorem INV_up {n c : Nat} {s : hb_S} (hc : c < 3) {p : hb_Pk} (hp : oU p) (h1 : ¬ p.1 = 1) (hU : ∀ i, isU i p = false) (h : cs s c = true) (H : INV n s) : INV n (M_up s c p) := by
  have hs := cs_ok h
  exact INV_one hc (Nat.le_refl _) (fr_up _ _ _) H (fun g => (CI_up0 (L := 12) hp h1 (CI_s2 g hs.1) hU (CI_len g (by omega))).mono (Nat.le_refl _) (by decide) (Nat.le_refl _))
theorem CI_3 {D L n c : Nat} {s : hb_S} (h0 : sI s 0 c = 2) (H : CI D L n [] [] s c) : CI D L n [] [] (tI s 0 c 3) c := by
  have hat := CI_s2 H h0
  obtain ⟨a, b, ⟨l1, l2, l3, l4, l5, l6, l7⟩, s4, k5, k6, k7⟩ := H
  have e : sI (tI s 0 c 3) 0 c = 3 := by simp [st_a]
  refine ⟨a, b, ⟨fun q => ?_, fun q => absurd q hat, ?_, l4, fun q => ?_, l6, fun q => ?_⟩, s4, k5, k6, k7⟩
  · rw [e] at q; exact absurd q (by decide)
  · rw [e, if_neg (by decide)]; rw [h0, if_neg (by decide)] at l3; exact l3
  · rw [e] at q; exact absurd q (by decide)
  · rw [e] at q; exact absurd q (by decide)
theorem INV_leave {n c : Nat} {s : hb_S} (hc : c < 3) (H : INV n s) : INV n (H_leave s c).1 := by
  unfold H_leave; split
  · rename_i h
    obtain ⟨u1, u2, u3⟩ := oU_t (t := 14) (id := 0) (v := 0) (Or.inr (Or.inr (Or.inr (Or.inr rfl)))) (fun e => absurd e (by decide))
    have g := INV_up hc u1 u2 u3 h H
    exact INV_one hc (Nat.le_refl _) (fr_I 0 3) g (fun w => CI_3 (cs_ok h).1 w)
  · exact H
theorem INV_ping {n c : Nat} {s : hb_S} (hc : c < 3) (H : INV n s) : INV n (H_ping s c).1 := by
  unfold H_ping; split
  · rename_i h
    obtain ⟨u1, u2, u3⟩ := oU_t (t := 12) (id := 0) (v := 0) (Or.inr (Or.inr (Or.inr (Or.inl rfl)))) (fun e => absurd e (by decide))
    exact INV_up hc u1 u2 u3 h H
  · exact H
theorem q_of {q : Int32} (h : 0 ≤ q ∧ q ≤ 2) : q012 q := by
  have h1 := Int32.le_iff_toInt_le.mp h.1
  have h2 := Int32.le_iff_toInt_le.mp h.2
  have z : (0 : Int32).toInt = 0 := rfl
  have o : (1 : Int32).toInt = 1 := rfl
  have t : (2 : Int32).toInt = 2 := rfl
  rw [z] at h1; rw [t] at h2
  rcases (show q.toInt = 0 ∨ q.toInt = 1 ∨ q.toInt = 2 by omega) with e | e | e
  · exact Or.inl (Int32.toInt_inj.mp (e.trans z.symm))
  · exact Or.inr (Or.inl (Int32.toInt_inj.mp (e.trans o.symm)))
  · exact Or.inr (Or.inr (Int32.toInt_inj.mp (e.trans t.symm)))
theorem INV_sub {n c : Nat} {s : hb_S} (hc : c < 3) (f : Int64) (q : Int32) (nl : Bool) (H : INV n s) : INV n (H_sub s c f q nl).1 := by
  unfold H_sub; split
  · rename_i h
    refine INV_up hc ⟨Or.inr (Or.inr (Or.inr (Or.inr (Or.inr (Or.inr (Or.inl rfl)))))), fun e => absurd e (by show ¬ (8 : Int32) = 1; decide), fun e => absurd e (by show ¬ (8 : Int32) = 3; decide), fun _ => ⟨ftr_read h.2.1, q_of h.2.2⟩, fun e => absurd e (by show ¬ (8 : Int32) = 10; decide), fun e => absurd e (by show ¬ (8 : Int32) = 6; decide), fun e => absurd e (by show ¬ (8 : Int32) = 5; decide)⟩ (by show ¬ (8 : Int32) = 1; decide) (fun i => decide_eq_false (fun z => absurd z.1 (by show ¬ (8 : Int32) = 3; decide))) h.1 H
  · exact H
theorem INV_uns {n c : Nat} {s : hb_S} (hc : c < 3) (f : Int64) (H : INV n s) : INV n (H_uns s c f).1 := by
  unfold H_uns; split
  · rename_i h
    refine INV_up hc ⟨Or.inr (Or.inr (Or.inr (Or.inr (Or.inr (Or.inr (Or.inr (Or.inl rfl))))))), fun e => absurd e (by show ¬ (10 : Int32) = 1; decide), fun e => absurd e (by show ¬ (10 : Int32) = 3; decide), fun e => absurd e (by show ¬ (10 : Int32) = 8; decide), fun _ => ftr_read h.2, fun e => absurd e (by show ¬ (10 : Int32) = 6; decide), fun e => absurd e (by show ¬ (10 : Int32) = 5; decide)⟩ (by show ¬ (10 : Int32) = 1; decide) (fun i => decide_eq_false (fun z => absurd z.1 (by show ¬ (10 : Int32) = 3; decide))) h.1 H
  · exact H
theorem INV_pub0 {n c : Nat} {s : hb_S} (hc : c < 3) (T : Int64) (v q : Int32) (r : Bool) (hT : tpc T) (hq : q012 q) (H : INV n s) : INV n (if q = 0 then (if cs s c = true then (M_up s c (M_pkt (T, v, q, r) 0 false), true) else (s, false)) else if ckp s c = true then (M_keep s c (T, v, q, r), true) else (s, false)).1 := by
  by_cases h0 : q = 0
  · rw [if_pos h0]
    split
    · rename_i h2
      exact INV_up hc (oU_pub (m := (T, v, q, r)) hT hq ⟨0, by decide, rfl⟩ false) (by show ¬ (3 : Int32) = 1; decide) (fun i => decide_eq_false (fun z => absurd (h0.symm.trans (z.2.1 : q = 2)) (by decide))) h2 H
    · exact H
  · rw [if_neg h0]
    split
    · rename_i h2
      have k := of_decide_eq_true h2
      have g : CI 13 19 n [] [] s c → CI 13 19 n [] [] (M_keep s c (T, v, q, r)) c := fun g => ((CI_keep (m := (T, v, q, r)) hc ⟨hT, hq.resolve_left h0⟩ k.1 (CI_len (L' := 12) g (by omega))).1).mono (Nat.le_refl _) (by decide) (Nat.le_refl _)
      exact INV_one hc (Nat.le_refl _) (CI_keep (m := (T, v, q, r)) hc ⟨hT, hq.resolve_left h0⟩ k.1 (H.ci hc)).2 H g
    · exact H
theorem INV_pub {n c : Nat} {s : hb_S} (hc : c < 3) (t : Int64) (v q : Int32) (r : Bool) (H : INV n s) : INV n (H_pub s c t v q r).1 := by
  unfold H_pub
  by_cases h : tx_tg (tx_read t) 8 0 = true ∧ (0 ≤ q ∧ q ≤ 2)
  · rw [if_pos h]
    exact INV_pub0 hc (tx_read t) v q r (tpc_read h.1) (q_of h.2) H
  · rw [if_neg h]; exact H
theorem CI_f {D L n j : Nat} {x y : List hb_Pk} {s : hb_S} {v : Int32} (hv : q012 v) (H : CI D L n x y s j) : CI D L n x y (tI s 14 0 v) j := by
  obtain ⟨a, b, l, s4, k5, k6, c1, c2, c3, c4, c5, c6, c7, c8, c9, c10⟩ := H
  refine ⟨a, b, l, s4, k5, k6, c1, ⟨c2.1, ?_, c2.2.2⟩, c3, c4, c5, c6, c7, c8, c9, c10⟩
  by_cases e : j = 0
  · subst e
    have : sI (tI s 14 0 v) 14 0 = v := by simp [st_a]
    rw [this]; exact hv
  · have : sI (tI s 14 0 v) 14 j = sI s 14 j := by simp [st_a, e]
    rw [this]; exact c2.2.1
theorem HI_f {d l n c : Nat} {x y : List hb_Pk} {s : hb_S} {v : Int32} (hv : q012 v) (H : HI d l n c x y s) : HI d l n c x y (tI s 14 0 v) := ⟨fun j hj => CI_f hv (H.1 j hj), H.2⟩
theorem INV_fail {n : Nat} {s : hb_S} {v : Int32} (H : INV n s) : INV n (if 0 ≤ v ∧ v ≤ 2 then tI s 14 0 v else s) := by
  split
  · rename_i h; exact ⟨fun j hj => CI_f (q_of h) (H.1 j hj), H.2⟩
  · exact H
theorem INV_tick {n : Nat} {s : hb_S} (H : INV n s) : INV n (M_tkF 3 0 s 0).1 := AI_tkF (fun _ _ => by decide) 3 0 s 0 rfl H.1 H.2
theorem INV_bd {n : Nat} {s : hb_S} (H : INV n s) : INV n (M_bd s) := AI_bd H.1 H.2
theorem INV_upF {n c : Nat} {s : hb_S} {p : hb_Pk} (hc : c < 3) (hp : oU p) (hd : (sN s (2 * c + 1)).length ≤ 11) (H : HI 11 19 n c [p] [] s) : INV n (H_upF s c p) := by
  unfold H_upF
  have H1 : HI 11 19 n c [p] [] (tI s 14 0 0) := HI_f (Or.inl rfl) H
  split
  · exact HI.inv (HI_one hc fr.rf H1 (fun g => (CI_drop g).mono (by decide) (Nat.le_refl _) (Nat.le_refl _)))
  · exact HI.inv (HI_recv hc hp H1 hd)
theorem INV_hup {n c : Nat} {s : hb_S} (hc : c < 3) (H : INV n s) : INV n (H_up s c).1 := by
  unfold H_up
  split
  · exact H
  · rename_i p r e
    split
    · rename_i hd
      have g := CI_takeU e (H.ci hc)
      have e1 : sN (tN s (2 * c) r) (2 * c + 1) = sN s (2 * c + 1) := by simp only [sN, tN]; exact va_up_ne _ _ (by omega)
      have H1 : HI 11 19 n c [p] [] (tN s (2 * c) r) := HI_one hc (fr_N0 r) (H.hi c) (fun _ => CI_down g.1 (by rw [e1]; omega))
      have I := INV_upF hc g.2 (by rw [e1]; omega) H1
      split
      · exact I
      · exact INV_bd I
    · exact H
theorem INV_hdn {n c : Nat} {s : hb_S} (hc : c < 3) (H : INV n s) : INV (n + 1) (H_dn s c).1 := by
  unfold H_dn
  split
  · exact H.mono (by omega)
  · rename_i p r e
    split
    · rename_i hd
      have g := CI_takeD e (H.ci hc)
      have e0 : sN (tN s (2 * c + 1) r) (2 * c) = sN s (2 * c) := by simp only [sN, tN]; exact va_up_ne _ _ (by omega)
      have g2 := CI_crv hc g.2 (CI_len (L' := 11) g.1 (by rw [e0]; omega))
      exact INV_one hc (by omega) ((fr_N1 r).tr g2.2) H (fun _ => g2.1)
    · exact H.mono (by omega)
theorem INV_0 : INV 0 hb_s0 := by
  refine ⟨fun j _ => ?_, ⟨fun m hm => (by cases hm), by decide⟩⟩
  refine ⟨⟨fun p hp => (by cases hp), Nat.zero_le _⟩, fun p hp => (by cases hp), ⟨fun _ => ⟨rfl, rfl⟩, fun _ => ⟨rfl, fun p hp => (by cases hp)⟩, Nat.zero_le _, fun i => Nat.le_refl _, fun q => absurd q (by show ¬ (0 : Int32) = 1; decide), fun q => absurd rfl q, fun q => absurd q (by show ¬ (0 : Int32) = 2; decide)⟩, ⟨Nat.zero_le _, fun x hx => (by cases hx), List.Pairwise.nil, Nat.zero_le _⟩, ⟨fun x hx => (by cases hx), List.Pairwise.nil, fun x hx => (by cases hx), fun x hx => (by cases hx), fun _ => rfl⟩, ⟨Nat.zero_le _, Nat.zero_le _, Nat.zero_le _, by show (0 : Int32) ≤ 3; decide, Nat.zero_le _⟩, ⟨fun _ => rfl, ⟨by show (0 : Int32) ≤ 0; decide, Or.inl rfl, fun _ => rfl⟩, ⟨by show (0 : Int32) ≤ 0; decide, by show (0 : Int32) ≤ 50; decide⟩, fun _ q => absurd rfl q, ⟨0, by decide, rfl⟩, ⟨0, by decide, rfl⟩, ⟨0, by decide, rfl⟩, Or.inl rfl, Or.inl rfl, fun q => absurd rfl q⟩⟩
