/-! The reference's broker: what it gets, second half (laid by wip/whole/p99j.py). -/
section ZV1
variable {z : Nat × Nat} {m0 : Nat} {s : hb_S} {p : hb_Pk} {t : rf_S} {h : ev_H} {Q : ev_O → Prop} {c l : Nat}
abbrev fpl (f : Int64) : hb_Sb → Bool := fun x => decide (x.1 = f)
theorem sp_zsu_loop (R : zR z m0 s p t h) (hc : c < 3) (h1 : ¬ p.1 = 1) (hB : ∀ x, x ∈ sB s c → oS x) (hf : tx_read p.2.2.2.1 = p.2.2.2.1) (k : Q (some (.int (on_i (ix_of (fpl p.2.2.2.1) (sB s c) 0))), h)) : ∀ (B A : List hb_Sb), sB s c = A ++ B → ix_of (fpl p.2.2.2.1) (sB s c) 0 = ix_of (fpl p.2.2.2.1) B A.length → ev_W (mk_Z_subPlace z) (2, [some (.ref m0), some (.int (nI c)), some (.int (nI A.length))], [], h) Q := by
  have h4 := R.2.2.2.2.2.1 c hc
  intro B
  induction B with
  | nil =>
    intro A hl e
    rw [List.append_nil] at hl
    rw [e] at k
    refine ev_W.fn rfl rfl ?_
    refine ev_W.fn rfl rfl ?_
    refine ev_W.obj rfl R.ob rfl ?_
    refine ev_W.fn rfl rfl ?_
    refine ev_W.g43 R hc rfl rfl ?_
    refine ev_W.brT rfl rfl (nI_le (by rw [hl]; exact Nat.le_refl _) (by rw [hl] at h4; omega)) ?_
    refine ev_W.fn rfl rfl ?_
    refine ev_W.ret rfl rfl ?_
    exact k
  | cons x B ih =>
    intro A hl e
    have hL : (sB s c).length = A.length + 1 + B.length := by rw [hl]; simp; omega
    have hx : (sB s c)[A.length]? = some x := by rw [hl]; simp
    have hS := hB x (List.mem_of_getElem? hx)
    have pi := pl_inj hS.1.1 hf
    refine ev_W.fn rfl rfl ?_
    refine ev_W.fn rfl rfl ?_
    refine ev_W.obj rfl R.ob rfl ?_
    refine ev_W.fn rfl rfl ?_
    refine ev_W.g43 R hc rfl rfl ?_
    refine ev_W.brF rfl rfl (nI_ge (by omega) (by omega)) ?_
    refine ev_W.fn rfl rfl ?_
    refine ev_W.obj rfl R.ob rfl ?_
    refine ev_W.fn rfl rfl ?_
    refine ev_W.fn rfl rfl ?_
    refine ev_W.fn rfl rfl ?_
    refine ev_W.fn rfl rfl ?_
    refine ev_W.fn rfl rfl ?_
    refine ev_W.g44 R hc hx (zma 4 c _) rfl ?_
    refine ev_W.fn rfl rfl ?_
    refine ev_W.g17 R h1 rfl ?_
    refine ev_W.fn rfl rfl ?_
    refine ev_W.br rfl rfl (fun g1 => ?_) (fun g1 => ?_)
    · have hn : fpl p.2.2.2.1 x = false := decide_eq_false (fun q => lc_ne g1 (pi.mpr q))
      refine ev_W.fn rfl rfl ?_
      refine ev_W.fn rfl rfl ?_
      have nx := ih (A ++ [x]) (by rw [hl]; simp) (by rw [e, ix_of, hn, if_neg (by decide)]; simp)
      rw [List.length_append] at nx
      have e2 : nI (A.length + [x].length) = nI A.length + 1 := (nI_1 _).symm
      rw [e2] at nx
      exact nx
    · refine ev_W.fn rfl rfl ?_
      refine ev_W.ret rfl rfl ?_
      rw [e, ix_of, if_pos (decide_eq_true (pi.mp (lc_en g1)))] at k
      exact k
theorem sp_Z_subPlace (R : zR z m0 s p t h) (hc : c < 3) (h1 : ¬ p.1 = 1) (hB : ∀ x, x ∈ sB s c → oS x) (hf : tx_read p.2.2.2.1 = p.2.2.2.1) (k : Q (some (.int (on_i (ix_of (fpl p.2.2.2.1) (sB s c) 0))), h)) : ev_M (mf_Z_subPlace z) [.ref m0, .int (nI c)] h Q := by
  refine ev_M.go rfl rfl ?_
  refine ev_W.fn rfl rfl ?_
  refine ev_W.fn rfl rfl ?_
  exact sp_zsu_loop R hc h1 hB hf k _ [] rfl rfl
theorem sp_Z_unsubscribed {D Lu N : Nat} {x y : List hb_Pk} (R : zR z m0 s p t h) (hc : c < 3) (h1 : ¬ p.1 = 1) (hf : tx_read p.2.2.2.1 = p.2.2.2.1) (H : CI D Lu N x y s c) (hD : D ≤ 20) (k : ∀ t' h', zR z m0 (M_ru s c p.2.2.2.1) p t' h' → rf_E m0 h h' → Q (none, h')) : ev_M (mf_Z_unsubscribed z) [.ref m0, .int (nI c)] h Q := by
  have hB := H.2.2.2.2.1.2.2.2.1
  have h4 := R.2.2.2.2.2.1 c hc
  have hdn := H.2.2.2.2.2.1.2.2.1
  have h3l := H.2.2.2.2.2.1.2.2.2.2
  have P := R.1
  have hn := (R.2.1.b c hc).1
  unfold M_ru at k
  refine ev_M.go rfl rfl ?_
  refine ev_W.fn rfl rfl ?_
  refine ev_W.fn rfl rfl ?_
  refine ev_W.clR rfl rfl rfl rfl rfl R.ob ?_
  refine sp_Z_subPlace R hc h1 hB hf ?_
  have k : ∀ t' h', zR z m0 (match ix_of (fpl p.2.2.2.1) (sB s c) 0 with
    | some i => M_send (tB s c ((sB s c).eraseIdx i)) c (mkp 11 0 0)
    | none => M_send s c (mkp 11 0 17)) p t' h' → rf_E m0 h h' → Q (none, h') := k
  have hix : ∀ j, ix_of (fpl p.2.2.2.1) (sB s c) 0 = some j → j < (sB s c).length := fun j e => by
    obtain ⟨x, hx, _⟩ := ix_0 e
    exact (List.getElem?_eq_some_iff.mp hx).1
  generalize ix_of (fpl p.2.2.2.1) (sB s c) 0 = w at k hix ⊢
  cases w with
  | none =>
    have k : ∀ t' h', zR z m0 (M_send s c (mkp 11 0 17)) p t' h' → rf_E m0 h h' → Q (none, h') := k
    refine ev_W.fn rfl rfl ?_
    refine ev_W.fn rfl rfl ?_
    refine ev_W.fn rfl rfl ?_
    refine ev_W.fn rfl rfl ?_
    refine ev_W.fn rfl rfl ?_
    refine ev_W.fn rfl rfl ?_
    refine ev_W.fn rfl rfl ?_
    refine ev_W.fn rfl rfl ?_
    refine ev_W.fn rfl rfl ?_
    refine ev_W.clR rfl rfl rfl rfl rfl R.ob ?_
    refine sp_Z_answer R hc (by omega) (by decide) (fun t1 u1 R1 E1 => ?_)
    refine ev_W.ret rfl rfl ?_
    exact k _ _ R1 E1
  | some j =>
    have k : ∀ t' h', zR z m0 (M_send (tB s c ((sB s c).eraseIdx j)) c (mkp 11 0 0)) p t' h' → rf_E m0 h h' → Q (none, h') := k
    have hj := hix j rfl
    have hj0 : ¬ nI j < 0 := nI_pos (by omega)
    refine ev_W.fn rfl rfl ?_
    refine ev_W.fn rfl rfl ?_
    refine ev_W.brF rfl rfl hj0 ?_
    refine ev_W.fn rfl rfl ?_
    refine ev_W.obj rfl P.2.2.2.1 rfl ?_
    refine ev_W.fn rfl rfl ?_
    refine ev_W.fn rfl rfl ?_
    refine ev_W.ri 43 P rfl rfl hc rfl ?_
    refine ev_W.fn rfl rfl ?_
    refine ev_W.fn rfl rfl ?_
    refine ev_W.si 43 P rfl rfl hc rfl (fun u1 R1 E1 => ?_)
    refine ev_W.fn rfl rfl ?_
    refine ev_W.fn rfl rfl ?_
    refine ev_W.fn rfl rfl ?_
    refine ev_W.fn rfl rfl ?_
    refine ev_W.fn rfl rfl ?_
    refine ev_W.fn rfl rfl ?_
    have RR' : rf_P z m0 (uI t 43 c (t.1 43 c - 1)) _ := R1
    have EE := E1
    have A0 : ag (WB c) t (uI t 43 c (t.1 43 c - 1)) := ag.rf.wI _ (Or.inl ⟨rfl, rfl⟩)
    have hn1 : (uI t 43 c (t.1 43 c - 1)).1 43 c = nI ((sB s c).length - 1) := by rw [uI_1, if_pos ⟨rfl, rfl⟩, hn]; exact nI_p1 (by omega)
    have step := sp_zun_loop (xs := sB s c) (Q := Q) (k0 := j) hc h4 ((sB s c).length - 1 - j) j _ _ (Nat.le_refl _) (by omega) RR' hn1 (fun i x hx => ?_) (fun t' h' y P' E' A' e' r' => ?_)
    · rw [show nI (4 * c + j) = 4 * nI c + nI j from (zma 4 c j).symm] at step
      exact step
    · rw [shf_0] at hx
      exact ((R.2.1.b c hc).2 i x hx).cg (fun f h1 h2 => ⟨by rw [uI_1, if_neg (by omega)], rfl⟩)
    · have A2 : ag (WB c) t t' := A0.tr (A'.mono (fun f j w => by unfold WB; omega))
      have R9 : zR z m0 (tB s c ((sB s c).eraseIdx j)) p t' h' := by
        refine ⟨P', ?_, by have g := R.2.2.1; unfold rg at g ⊢; rw [e']; exact g, R.2.2.2.dB (by rw [List.length_eraseIdx_of_lt hj]; omega)⟩
        refine R.2.1.subs R.2.2.2 A2 (by rw [e']; rfl) ⟨?_, fun i x hx => r' i x (shf_end hj hx)⟩
        rw [A'.i 43 c (by omega), hn1, List.length_eraseIdx_of_lt hj]
      refine ev_W.fn rfl rfl ?_
      refine ev_W.fn rfl rfl ?_
      refine ev_W.fn rfl rfl ?_
      refine ev_W.fn rfl rfl ?_
      refine ev_W.brF rfl rfl hj0 ?_
      refine ev_W.fn rfl rfl ?_
      refine ev_W.fn rfl rfl ?_
      refine ev_W.clR rfl rfl rfl rfl rfl R9.ob ?_
      refine sp_Z_answer R9 hc (by show (sN s (2 * c + 1)).length ≤ 30; omega) (by decide) (fun t1 u1 R1 E1 => ?_)
      refine ev_W.ret rfl rfl ?_
      exact k _ _ R1 (rf_E.tr EE (rf_E.tr E' E1))
theorem sp_zsb_x {j : Nat} {bs : List hb_Sb} {h1 : ev_H} {n' i : Int32} (R : zR z m0 s p t h) (P : rf_P z m0 (uI t 43 c n') h1) (hc : c < 3) (hj : j < 4) (hi : i = nI (4 * c + j)) (g1 : ¬ p.1 = 1) (hl : bs.length ≤ 4) (hn : n' = nI bs.length) (hrow : ∀ n x, bs[n]? = some x → (n = j ∧ x = (p.2.2.2.1, p.2.2.1, p.2.2.2.2.2.2.1)) ∨ (n ≠ j ∧ rsbP t (4 * c + n) x)) (y2 y4 y5 : Option Value) (k : ∀ t' h', zR z m0 (tB s c bs) p t' h' → rf_E m0 h1 h' → ev_W (mk_Z_subscribed z) (109, [some (.ref m0), some (.int (nI c)), y2, some (.int i), y4, y5], [], h') Q) : ev_W (mk_Z_subscribed z) (79, [some (.ref m0), some (.int (nI c)), y2, some (.int i), y4, y5], [], h1) Q := by
  obtain ⟨r12, r13, r14, r15, r16, _, r17⟩ := R.2.2.1
  have e17 : (uI t 43 c n').2.2.2 17 = tz_pl p.2.2.2.1 := r17 g1
  have e14 : (uI t 43 c n').2.2.1 14 = p.2.2.1 := r14
  have e16 : (uI t 43 c n').2.2.1 16 = zb p.2.2.2.2.2.2.1 := r16
  have b16 : (uI t 43 c n').2.2.1 16 = 0 ∨ (uI t 43 c n').2.2.1 16 = 1 := by rw [e16]; exact zb_01 _
  refine ev_W.fn rfl rfl ?_
  refine ev_W.obj rfl P.2.2.2.1 rfl ?_
  refine ev_W.fn rfl rfl ?_
  refine ev_W.fn rfl rfl ?_
  refine ev_W.obj rfl P.2.2.2.1 rfl ?_
  refine ev_W.sl 44 P rfl hi (show 4 * c + j < 12 by omega) rfl (fun u1 R1 E1 => ?_)
  refine ev_W.fn rfl rfl ?_
  refine ev_W.obj rfl R1.2.2.2.1 rfl ?_
  refine ev_W.fn rfl rfl ?_
  refine ev_W.fn rfl rfl ?_
  refine ev_W.obj rfl R1.2.2.2.1 rfl ?_
  refine ev_W.si 45 R1 rfl hi (show 4 * c + j < 12 by omega) rfl (fun u2 R2 E2 => ?_)
  refine ev_W.fn rfl rfl ?_
  refine ev_W.obj rfl R2.2.2.2.1 rfl ?_
  refine ev_W.fn rfl rfl ?_
  refine ev_W.fn rfl rfl ?_
  refine ev_W.obj rfl R2.2.2.2.1 rfl ?_
  refine ev_W.sz 46 R2 rfl b16 hi (show 4 * c + j < 12 by omega) rfl (fun u3 R3 E3 => ?_)
  have W : ∀ f, 44 ≤ f → f < 47 → WB c f (4 * c + j) := fun f a b => Or.inr ⟨a, b, by omega, by omega⟩
  refine k _ _ ⟨R3, R.2.1.subs R.2.2.2 ((((ag.rf.wI _ (Or.inl ⟨rfl, rfl⟩)).wL _ (W 44 (by decide) (by decide))).wI _ (W 45 (by decide) (by decide))).wI _ (W 46 (by decide) (by decide))) rfl ⟨?_, fun n x hx => ?_⟩, R.2.2.1, R.2.2.2.dB hl⟩ (E1.tr (E2.tr E3))
  · simp only [uI_1, uI_2, uL_1, uL_0]
    simp [hn]
  · rcases hrow n x hx with ⟨rfl, rfl⟩ | ⟨hne, q1, q2, q3⟩
    · refine ⟨?_, ?_, ?_⟩
      · simp only [uI_1, uI_2, uL_1, uL_0]
        simp; exact e17
      · simp only [uI_1, uI_2, uL_1, uL_0]
        simp; exact e14
      · simp only [uI_1, uI_2, uL_1, uL_0]
        simp; exact e16
    · refine ⟨?_, ?_, ?_⟩ <;> simp only [uI_1, uI_2, uL_1, uL_0] <;> simp [hne] <;> assumption
theorem min_q (a b : Int32) : (if a < b then a else b) = (if b < a then b else a) := by
  by_cases h1 : a < b
  · rw [if_pos h1, if_neg (fun h2 => Int32.lt_irrefl (Int32.lt_trans h1 h2))]
  · by_cases h2 : b < a
    · rw [if_neg h1, if_pos h2]
    · rw [if_neg h1, if_neg h2]; exact Int32.le_antisymm (Int32.not_lt.mp h1) (Int32.not_lt.mp h2)
theorem give_cpy {s : hb_S} {c : Nat} {T : Int64} {v q : Int32} (hq : q012 q) : M_give s c (T, v, q, true) = if q = 0 ∨ (sP s (3 + c)).length + (sM s c).length < 6 then M_cpy s c T v q true else s := by
  unfold M_give M_cpy
  rcases hq with rfl | rfl | rfl
  · rw [if_pos (Or.inl rfl), if_neg (show ¬ (0 : Int32) < 0 by decide)]
    by_cases l : (sN s (2 * c + 1)).length < 12
    · rw [if_pos ⟨rfl, l⟩, if_pos l]; rfl
    · rw [if_neg (fun g => l g.2), if_neg l, if_neg (fun g => absurd g.1 (by show ¬ (0 : Int32) < 0; decide))]
  · rw [if_neg (fun g => absurd g.1 (by show ¬ (1 : Int32) = 0; decide)), if_pos (show (0 : Int32) < 1 by decide)]
    by_cases l : (sP s (3 + c)).length + (sM s c).length < 6
    · rw [if_pos ⟨(by show (0 : Int32) < 1; decide), by omega⟩, if_pos (Or.inr l)]
    · rw [if_neg (fun g => l (by have := g.2; omega)), if_neg (fun g => g.elim (by decide) l)]
  · rw [if_neg (fun g => absurd g.1 (by show ¬ (2 : Int32) = 0; decide)), if_pos (show (0 : Int32) < 2 by decide)]
    by_cases l : (sP s (3 + c)).length + (sM s c).length < 6
    · rw [if_pos ⟨(by show (0 : Int32) < 2; decide), by omega⟩, if_pos (Or.inr l)]
    · rw [if_neg (fun g => l (by have := g.2; omega)), if_neg (fun g => g.elim (by decide) l)]
theorem cpy_3 {s : hb_S} {c : Nat} {T : Int64} {v q : Int32} {b : Bool} (hc : c < 3) : sM (M_cpy s c T v q b) 3 = sM s 3 := by
  unfold M_cpy
  split
  · simp only [sM, tM]; exact va_up_ne _ _ (by omega)
  · split
    · rw [sM_send]
    · rfl
theorem sp_zsg_loop (hc : c < 3) (g1 : ¬ p.1 = 1) (hf : ftr p.2.2.2.1) (hva : q012 p.2.2.1) (y2 : Option Value) (i3 : Int32) : ∀ (B A : List hb_Ms) (s : hb_S) (t : rf_S) (h : ev_H) (y5 : Option Value), zR z m0 s p t h → sM s 3 = A ++ B → RI s → (∀ t' h' (y4 y5 : Option Value), zR z m0 (M_gvF B s c p.2.2.2.1 p.2.2.1) p t' h' → rf_E m0 h h' → ev_W (mk_Z_subscribed z) (217, [some (.ref m0), some (.int (nI c)), y2, some (.int i3), y4, y5], [], h') Q) → ev_W (mk_Z_subscribed z) (123, [some (.ref m0), some (.int (nI c)), y2, some (.int i3), some (.int (nI A.length)), y5], [], h) Q := by
  intro B
  induction B with
  | nil =>
    intro A s t h y5 R hs hr k
    have h4 := hr.2
    rw [List.append_nil] at hs
    refine ev_W.fn rfl rfl ?_
    refine ev_W.fn rfl rfl ?_
    refine ev_W.g58 R rfl ?_
    refine ev_W.brT rfl rfl (nI_le (by rw [hs]; exact Nat.le_refl _) (by rw [hs] at h4; omega)) ?_
    exact k _ _ _ _ R rf_E.rf
  | cons m B ih =>
    intro A s t h y5 R hs hr k
    have h4 := hr.2
    have hL : (sM s 3).length = A.length + 1 + B.length := by rw [hs]; simp; omega
    have hx : (sM s 3)[A.length]? = some m := by rw [hs]; simp
    have hm := hr.1 m (List.mem_of_getElem? hx)
    have h7 := R.2.2.2.2.2.2.1 c hc
    have hq := ls_q hm.2 hva
    rw [M_gvF, min_q p.2.2.1, give_cpy hq] at k
    have back : ∀ (s' : hb_S) (t' : rf_S) (h' : ev_H) (y5 : Option Value), zR z m0 s' p t' h' → rf_E m0 h h' → s' = (if tc_cov p.2.2.2.1 m.1 = true then (if (if m.2.2.1 < p.2.2.1 then m.2.2.1 else p.2.2.1) = 0 ∨ (sP s (3 + c)).length + (sM s c).length < 6 then M_cpy s c m.1 m.2.1 (if m.2.2.1 < p.2.2.1 then m.2.2.1 else p.2.2.1) true else s) else s) → ev_W (mk_Z_subscribed z) (211, [some (.ref m0), some (.int (nI c)), y2, some (.int i3), some (.int (nI A.length)), y5], [], h') Q := by
      intro s' t' h' y5 R' E' e
      have e3 : sM s' 3 = sM s 3 := by
        rw [e]
        by_cases a1 : tc_cov p.2.2.2.1 m.1 = true
        · rw [if_pos a1]
          by_cases a2 : (if m.2.2.1 < p.2.2.1 then m.2.2.1 else p.2.2.1) = 0 ∨ (sP s (3 + c)).length + (sM s c).length < 6
          · rw [if_pos a2]; exact cpy_3 hc
          · rw [if_neg a2]
        · rw [if_neg a1]
      refine ev_W.fn rfl rfl ?_
      refine ev_W.fn rfl rfl ?_
      have nx := ih (A ++ [m]) s' t' h' y5 R' (by rw [e3, hs]; simp) (by unfold RI; rw [e3]; exact hr) (fun t2 h2 y4 y5 R2 E2 => k t2 h2 y4 y5 (by rw [← e]; exact R2) (rf_E.tr E' E2))
      rw [List.length_append] at nx
      have e4 : nI (A.length + [m].length) = nI A.length + 1 := (nI_1 _).symm
      rw [e4] at nx
      exact nx
    refine ev_W.fn rfl rfl ?_
    refine ev_W.fn rfl rfl ?_
    refine ev_W.g58 R rfl ?_
    refine ev_W.brF rfl rfl (nI_ge (by omega) (by omega)) ?_
    refine ev_W.fn rfl rfl ?_
    refine ev_W.obj rfl R.ob rfl ?_
    refine ev_W.fn rfl rfl ?_
    refine ev_W.g61 R hx rfl rfl ?_
    refine ev_W.fn rfl rfl ?_
    refine ev_W.g14 R rfl ?_
    refine ev_W.cl rfl rfl rfl rfl rfl ?_
    refine sp_Z_lesser ?_
    refine ev_W.fn rfl rfl ?_
    refine ev_W.fn rfl rfl ?_
    refine ev_W.fn rfl rfl ?_
    refine ev_W.g17 R g1 rfl ?_
    refine ev_W.fn rfl rfl ?_
    refine ev_W.obj rfl R.ob rfl ?_
    refine ev_W.fn rfl rfl ?_
    refine ev_W.g59 R hx rfl rfl ?_
    refine ev_W.clR rfl rfl rfl rfl rfl R.ob ?_
    refine sp_Z_fitsR R hf hm.1 (fun t1 u1 R1 E1 => ?_)
    refine ev_W.br rfl rfl (fun g2 => ?_) (fun g2 => ?_)
    · refine back _ _ _ _ R1 E1 ?_
      rw [if_neg (by rw [zb_n0.mp g2]; decide)]
    · refine ev_W.fn rfl rfl ?_
      refine ev_W.br rfl rfl (fun g3 => ?_) (fun g3 => ?_)
      · refine ev_W.fn rfl rfl ?_
        refine ev_W.fn rfl rfl ?_
        refine ev_W.fn rfl rfl ?_
        refine ev_W.obj rfl R1.ob rfl ?_
        refine ev_W.fn rfl rfl ?_
        refine ev_W.g59 R1 hx rfl rfl ?_
        refine ev_W.fn rfl rfl ?_
        refine ev_W.obj rfl R1.ob rfl ?_
        refine ev_W.fn rfl rfl ?_
        refine ev_W.g60 R1 hx rfl rfl ?_
        refine ev_W.fn rfl rfl ?_
        refine ev_W.fn rfl rfl ?_
        refine ev_W.clR rfl rfl rfl rfl rfl R1.ob ?_
        refine sp_Z_copy R1 (b := true) hc (fun _ => absurd g3 (by intro w; rename_i u; rw [w] at u; exact absurd u (by decide))) rfl (fun t2 u2 R2 E2 => ?_)
        refine back _ _ _ _ R2 (E1.tr E2) ?_
        rw [if_pos (zb_1.mp g2), if_pos (Or.inl g3)]
      · refine ev_W.fn rfl rfl ?_
        refine ev_W.obj rfl R1.ob rfl ?_
        refine ev_W.fn rfl rfl ?_
        refine ev_W.g47 R1 hc rfl rfl ?_
        refine ev_W.fn rfl rfl ?_
        refine ev_W.obj rfl R1.ob rfl ?_
        refine ev_W.fn rfl rfl ?_
        refine ev_W.g48 R1 hc rfl rfl ?_
        refine ev_W.fn rfl rfl ?_
        refine ev_W.fn rfl rfl ?_
        refine ev_W.br rfl rfl (fun g4 => ?_) (fun g4 => ?_)
        · refine back _ _ _ _ R1 E1 ?_
          rw [if_pos (zb_1.mp g2), if_neg (fun w => w.elim g3 (fun w => by rw [nI_add] at g4; exact nI_ge (b := 6) w (by decide) g4))]
        · have g4 : (sP s (3 + c)).length + (sM s c).length < 6 := Nat.lt_of_not_le (fun w => g4 (by rw [nI_add]; exact nI_le (a := 6) w (by omega)))
          refine ev_W.fn rfl rfl ?_
          refine ev_W.fn rfl rfl ?_
          refine ev_W.fn rfl rfl ?_
          refine ev_W.obj rfl R1.ob rfl ?_
          refine ev_W.fn rfl rfl ?_
          refine ev_W.g59 R1 hx rfl rfl ?_
          refine ev_W.fn rfl rfl ?_
          refine ev_W.obj rfl R1.ob rfl ?_
          refine ev_W.fn rfl rfl ?_
          refine ev_W.g60 R1 hx rfl rfl ?_
          refine ev_W.fn rfl rfl ?_
          refine ev_W.fn rfl rfl ?_
          refine ev_W.clR rfl rfl rfl rfl rfl R1.ob ?_
          refine sp_Z_copy R1 (b := true) hc (fun _ => by omega) rfl (fun t3 u3 R3 E3 => ?_)
          refine back _ _ _ _ R3 (E1.tr E3) ?_
          rw [if_pos (zb_1.mp g2), if_pos (Or.inr g4)]
theorem sp_Z_subscribed {l n : Nat} (R : zR z m0 s p t h) (hc : c < 3) (g1 : ¬ p.1 = 1) (hf : ftr p.2.2.2.1) (hva : q012 p.2.2.1) (hat : ¬ sI s 1 c = 0) (H : HI 11 l n c [] [] s) (k : ∀ t' h', zR z m0 (M_rs s c p.2.2.2.1 p.2.2.1 p.2.2.2.2.2.2.1) p t' h' → rf_E m0 h h' → Q (none, h')) : ev_M (mf_Z_subscribed z) [.ref m0, .int (nI c)] h Q := by
  have g := H.ci hc
  have hlv := CI_lives g hat
  have hB := g.2.2.2.2.1.2.2.2.1
  have h4 := R.2.2.2.2.2.1 c hc
  have hdn := g.2.2.2.2.2.1.2.2.1
  have h3l := g.2.2.2.2.2.1.2.2.2.2
  have P := R.1
  have hn := (R.2.1.b c hc).1
  have rows := (R.2.1.b c hc).2
  -- the pumping
  have pmp : ∀ (s' : hb_S) (t' : rf_S) (h' : ev_H) (y2 y3 y4 y5 : Option Value), zR z m0 s' p t' h' → rf_E m0 h h' → CI 12 l n [] [] s' c → M_pump s' c = M_rs s c p.2.2.2.1 p.2.2.1 p.2.2.2.2.2.2.1 → ev_W (mk_Z_subscribed z) (217, [some (.ref m0), some (.int (nI c)), y2, y3, y4, y5], [], h') Q := by
    intro s' t' h' y2 y3 y4 y5 R E' g' e
    refine ev_W.fn rfl rfl ?_
    refine ev_W.fn rfl rfl ?_
    refine ev_W.clR rfl rfl rfl rfl rfl R.ob ?_
    refine sp_Z_pumpSession R hc (show 12 ≤ 20 by decide) g' (fun t1 u1 R1 E1 => ?_)
    refine ev_W.ret rfl rfl ?_
    rw [e] at R1
    exact k _ _ R1 (rf_E.tr E' E1)
  -- the answer and the retained
  have giv : ∀ (bs : List hb_Sb) (t' : rf_S) (h' : ev_H) (y2 : Option Value) (i3 : Int32) (y4 y5 : Option Value), zR z m0 (tB s c bs) p t' h' → rf_E m0 h h' → M_enter s c p.2.2.2.1 p.2.2.1 p.2.2.2.2.2.2.1 = (tB s c bs, true) → ev_W (mk_Z_subscribed z) (109, [some (.ref m0), some (.int (nI c)), y2, some (.int i3), y4, y5], [], h') Q := by
    intro bs t' h' y2 i3 y4 y5 R E' e
    have ge := CI_enter (f := p.2.2.2.1) (q := p.2.2.1) (nl := p.2.2.2.2.2.2.1) hlv hf hva g
    rw [e] at ge
    have gs := CI_sendT (t := 9) (id := 0) (v := p.2.2.1) (oD_9 _ _) (by decide) (by decide) ge
    have gg := CI_gvF (f := p.2.2.2.1) (q := p.2.2.1) (D := 12) (by decide) hva (sM s 3) _ H.2.1 gs
    have rs : RI (M_send (tB s c bs) c (mkp 9 0 p.2.2.1)) := by unfold RI; rw [sM_send]; exact H.2
    refine ev_W.fn rfl rfl ?_
    refine ev_W.fn rfl rfl ?_
    refine ev_W.fn rfl rfl ?_
    refine ev_W.fn rfl rfl ?_
    refine ev_W.g14 R rfl ?_
    refine ev_W.clR rfl rfl rfl rfl rfl R.ob ?_
    refine sp_Z_answer R hc (by show (sN s (2 * c + 1)).length ≤ 30; omega) (by decide) (fun t1 u1 R1 E1 => ?_)
    refine ev_W.fn rfl rfl ?_
    refine ev_W.fn rfl rfl ?_
    refine sp_zsg_loop hc g1 hf hva _ _ (sM s 3) [] _ _ _ _ R1 (by show sM (M_send (tB s c bs) c (mkp 9 0 p.2.2.1)) 3 = _; rw [sM_send]; rfl) rs (fun t2 h2 y4 y5 R2 E2 => ?_)
    refine pmp _ _ _ _ _ _ _ R2 (rf_E.tr E' (rf_E.tr E1 E2)) gg ?_
    unfold M_rs
    rw [e, if_pos rfl]
    rfl
  refine ev_M.go rfl rfl ?_
  refine ev_W.fn rfl rfl ?_
  refine ev_W.fn rfl rfl ?_
  refine ev_W.clR rfl rfl rfl rfl rfl R.ob ?_
  refine sp_Z_subPlace R hc g1 hB hf.1 ?_
  generalize hix : ix_of (fpl p.2.2.2.1) (sB s c) 0 = w
  cases w with
  | none =>
    refine ev_W.fn rfl rfl ?_
    refine ev_W.fn rfl rfl ?_
    refine ev_W.fn rfl rfl ?_
    by_cases h5 : (sB s c).length < 4
    · refine ev_W.fn rfl rfl ?_
      refine ev_W.obj rfl P.2.2.2.1 rfl ?_
      refine ev_W.fn rfl rfl ?_
      refine ev_W.ri 43 P rfl rfl hc rfl ?_
      refine ev_W.fn rfl rfl ?_
      refine ev_W.brT rfl rfl (fun q => by rw [hn] at q; have := (nI_eq (b := 4) (by omega) (by decide)).mp q; omega) ?_
      refine ev_W.fn rfl rfl ?_
      refine ev_W.fn rfl rfl ?_
      refine ev_W.fn rfl rfl ?_
      refine ev_W.fn rfl rfl ?_
      refine ev_W.fn rfl rfl ?_
      refine ev_W.fn rfl rfl ?_
      refine ev_W.obj rfl P.2.2.2.1 rfl ?_
      refine ev_W.fn rfl rfl ?_
      refine ev_W.ri 43 P rfl rfl hc rfl ?_
      refine ev_W.fn rfl rfl ?_
      refine ev_W.fn rfl rfl ?_
      refine ev_W.fn rfl rfl ?_
      refine ev_W.fn rfl rfl ?_
      refine ev_W.obj rfl P.2.2.2.1 rfl ?_
      refine ev_W.fn rfl rfl ?_
      refine ev_W.fn rfl rfl ?_
      refine ev_W.fn rfl rfl ?_
      refine ev_W.fn rfl rfl ?_
      refine ev_W.obj rfl P.2.2.2.1 rfl ?_
      refine ev_W.fn rfl rfl ?_
      refine ev_W.ri 43 P rfl rfl hc rfl ?_
      refine ev_W.fn rfl rfl ?_
      refine ev_W.fn rfl rfl ?_
      refine ev_W.fn rfl rfl ?_
      refine ev_W.si 43 P rfl rfl hc rfl (fun u1 R1 E1 => ?_)
      refine sp_zsb_x (bs := sB s c ++ [(p.2.2.2.1, p.2.2.1, p.2.2.2.2.2.2.1)]) (j := (sB s c).length) R R1 hc h5 (by rw [hn]; exact zma 4 c _) g1 (by simp; omega) (by rw [hn, List.length_append, nI_1]; rfl) (fun n x hx => ?_) _ _ _ (fun t' h' R' E' => giv _ t' h' _ _ _ _ R' (rf_E.tr E1 E') ?_)
      · by_cases e : n < (sB s c).length
        · rw [List.getElem?_append_left e] at hx
          exact Or.inr ⟨by omega, rows n x hx⟩
        · rw [List.getElem?_append_right (by omega)] at hx
          have h0 : n - (sB s c).length = 0 := by
            have := (List.getElem?_eq_some_iff.mp hx).1
            simp at this; omega
          rw [h0] at hx
          have hx : (p.2.2.2.1, p.2.2.1, p.2.2.2.2.2.2.1) = x := by simpa using hx
          exact Or.inl ⟨by omega, hx.symm⟩
      · unfold M_enter
        rw [show ix_of (fun x => decide (x.1 = p.2.2.2.1)) (sB s c) 0 = none from hix]
        exact if_pos h5
    · refine ev_W.fn rfl rfl ?_
      refine ev_W.obj rfl R.ob rfl ?_
      refine ev_W.fn rfl rfl ?_
      refine ev_W.g43 R hc rfl rfl ?_
      refine ev_W.fn rfl rfl ?_
      refine ev_W.brF rfl rfl (fun q => q (by rw [show (sB s c).length = 4 by omega]; rfl)) ?_
      refine ev_W.fn rfl rfl ?_
      refine ev_W.fn rfl rfl ?_
      refine ev_W.fn rfl rfl ?_
      refine ev_W.fn rfl rfl ?_
      refine ev_W.clR rfl rfl rfl rfl rfl R.ob ?_
      refine sp_Z_answer R hc (by omega) (by decide) (fun t1 u1 R1 E1 => ?_)
      have ge : M_enter s c p.2.2.2.1 p.2.2.1 p.2.2.2.2.2.2.1 = (s, false) := by
        unfold M_enter
        rw [show ix_of (fun x => decide (x.1 = p.2.2.2.1)) (sB s c) 0 = none from hix]
        exact if_neg h5
      refine ev_W.fn rfl rfl ?_
      refine pmp _ _ _ _ _ _ _ R1 E1 (CI_sendT (t := 9) (id := 0) (v := 151) (oD_9 _ _) (by decide) (by decide) g) ?_
      unfold M_rs
      rw [ge]
      rfl
  | some j =>
    have hj : j < (sB s c).length := by
      obtain ⟨x, hx, _⟩ := ix_0 hix
      exact (List.getElem?_eq_some_iff.mp hx).1
    have hjp : 0 ≤ nI j := nI_pos' (by omega)
    refine ev_W.fn rfl rfl ?_
    refine ev_W.fn rfl rfl ?_
    refine ev_W.brT rfl rfl hjp ?_
    refine ev_W.fn rfl rfl ?_
    refine ev_W.fn rfl rfl ?_
    refine ev_W.fn rfl rfl ?_
    refine ev_W.fn rfl rfl ?_
    refine ev_W.brT rfl rfl hjp ?_
    refine ev_W.fn rfl rfl ?_
    refine ev_W.fn rfl rfl ?_
    refine ev_W.fn rfl rfl ?_
    refine ev_W.fn rfl rfl ?_
    refine ev_W.obj rfl P.2.2.2.1 rfl ?_
    refine ev_W.fn rfl rfl ?_
    refine ev_W.fn rfl rfl ?_
    refine ev_W.brT rfl rfl hjp ?_
    refine ev_W.fn rfl rfl ?_
    refine ev_W.obj rfl P.2.2.2.1 rfl ?_
    refine ev_W.fn rfl rfl ?_
    refine ev_W.ri 43 P rfl rfl hc rfl ?_
    refine ev_W.si 43 P rfl rfl hc rfl (fun u1 R1 E1 => ?_)
    refine sp_zsb_x (bs := (sB s c).set j (p.2.2.2.1, p.2.2.1, p.2.2.2.2.2.2.1)) (j := j) R R1 hc (by omega) (zma 4 c j) g1 (by rw [List.length_set]; exact h4) (by rw [hn, List.length_set]) (fun n x hx => ?_) _ _ _ (fun t' h' R' E' => giv _ t' h' _ _ _ _ R' (rf_E.tr E1 E') ?_)
    · by_cases e : n = j
      · subst e
        rw [List.getElem?_set_self hj] at hx
        exact Or.inl ⟨rfl, (Option.some.inj hx).symm⟩
      · rw [List.getElem?_set_ne (fun q => e q.symm)] at hx
        exact Or.inr ⟨e, rows n x hx⟩
    · unfold M_enter
      rw [show ix_of (fun x => decide (x.1 = p.2.2.2.1)) (sB s c) 0 = some j from hix]
end ZV1
