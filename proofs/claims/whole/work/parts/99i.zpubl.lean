/-! The reference's broker: what it gets, first half (laid by wip/whole/p99i.py). -/
section ZU
variable {z : Nat × Nat} {m0 : Nat} {s : hb_S} {p : hb_Pk} {t : rf_S} {h : ev_H} {Q : ev_O → Prop} {c l : Nat}
theorem sp_Z_published {l n : Nat} (R : zR z m0 s p t h) (hc : c < 3) (h3 : p.1 = 3) (hp : oU p) (H : HI 12 l n c [p] [] s) (k : ∀ t' h', zR z m0 (M_rp s c p.2.1 p.2.2.1 p.2.2.2.1 p.2.2.2.2.1 p.2.2.2.2.2.2.1) p t' h' → rf_E m0 h h' → Q (none, h')) : ev_M (mf_Z_published z) [.ref m0, .int (nI c)] h Q := by
  obtain ⟨hT, hq, id, hid, eid⟩ := hp.2.2.1 h3
  have h1 : ¬ p.1 = 1 := by rw [h3]; decide
  have ixh : 9 * nI c + p.2.1 = nI (9 * c + id) := by rw [eid]; exact zma 9 c id
  have hD : ∀ j, j < 3 → 12 ≤ Dc c 12 j ∧ Dc c 12 j ≤ 20 := fun j _ => by unfold Dc; split <;> omega
  unfold M_rp at k
  -- the answer
  have ans : ∀ (a : hb_S × Bool) (t' : rf_S) (h' : ev_H) (y3 : Option Value), zR z m0 a.1 p t' h' → rf_E m0 h h' → a = M_rpA s c p.2.1 p.2.2.1 p.2.2.2.1 p.2.2.2.2.1 p.2.2.2.2.2.2.1 → HI 12 l n c [p] [] a.1 → ev_W (mk_Z_published z) (68, [some (.ref m0), some (.int (nI c)), some (.int (9 * nI c + p.2.1)), y3, some (.int (zb a.2))], [], h') Q := by
    intro a t' h' y3 R E' ea Ha
    rw [← ea] at k
    have ga := Ha.ci hc
    have hdn := ga.2.2.2.2.2.1.2.2.1
    have h3l := ga.2.2.2.2.2.1.2.2.2.2
    have hk13 := ga.2.2.2.2.2.2.2.2.2.2.2.1
    unfold M_rpB at k
    have fin : ∀ (s' : hb_S) (t2 : rf_S) (h2 : ev_H), zR z m0 s' p t2 h2 → rf_E m0 h h2 → sN s' = sN a.1 → (∀ t3 h3', zR z m0 (if p.2.2.2.2.1 = 1 then M_send s' c (mkp 4 p.2.1 (if a.2 = true then 0 else 151)) else if p.2.2.2.2.1 = 2 then M_send s' c (mkp 5 p.2.1 (if a.2 = true then 0 else 151)) else s') p t3 h3' → rf_E m0 h h3' → Q (none, h3')) → ev_W (mk_Z_published z) (88, [some (.ref m0), some (.int (nI c)), some (.int (9 * nI c + p.2.1)), y3, some (.int (zb a.2))], [], h2) Q := by
      intro s' t2 h2 R E20 eN k
      have hd : (sN s' (2 * c + 1)).length ≤ 30 := by rw [eN]; omega
      refine ev_W.fn rfl rfl ?_
      refine ev_W.g15 R rfl ?_
      refine ev_W.br rfl rfl (fun g0 => ?_) (fun g0 => ?_)
      · refine ev_W.ret rfl rfl ?_
        have q0 : p.2.2.2.2.1 = 0 := by
          rcases hq with q | q | q
          · exact q
          · rw [q] at g0; exact absurd g0 (by decide)
          · rw [q] at g0; exact absurd g0 (by decide)
        rw [if_neg (by rw [q0]; decide), if_neg (by rw [q0]; decide)] at k
        exact k _ _ R E20
      · refine ev_W.fn rfl rfl ?_
        refine ev_W.fn rfl rfl ?_
        refine ev_W.fn rfl rfl ?_
        refine ev_W.g15 R rfl ?_
        refine ev_W.fn rfl rfl ?_
        refine ev_W.br rfl rfl (fun g1 => ?_) (fun g1 => ?_)
        · have q2 : p.2.2.2.2.1 = 2 := by
            rcases hq with q | q | q
            · rw [q] at g0; exact absurd (by decide) g0
            · exact absurd q g1
            · exact q
          rw [if_neg g1, if_pos q2] at k
          refine ev_W.fn rfl rfl ?_
          refine ev_W.fn rfl rfl ?_
          refine ev_W.br rfl rfl (fun ga => ?_) (fun ga => ?_)
          · rw [if_neg (by rw [zb_n0.mp ga]; decide)] at k
            refine ev_W.fn rfl rfl ?_
            refine ev_W.clR rfl rfl rfl rfl rfl R.ob ?_
            refine sp_Z_answer R hc hd (by decide) (fun t1 u1 R1 E1 => ?_)
            refine ev_W.ret rfl rfl ?_
            exact k _ _ R1 (rf_E.tr E20 (E1))
          · rw [if_pos (zb_1.mp ga)] at k
            refine ev_W.fn rfl rfl ?_
            refine ev_W.fn rfl rfl ?_
            refine ev_W.clR rfl rfl rfl rfl rfl R.ob ?_
            refine sp_Z_answer R hc hd (by decide) (fun t2 u2 R2 E2 => ?_)
            refine ev_W.ret rfl rfl ?_
            exact k _ _ R2 (rf_E.tr E20 (E2))
        · rw [if_pos (Decidable.not_not.mp g1)] at k
          refine ev_W.fn rfl rfl ?_
          refine ev_W.fn rfl rfl ?_
          refine ev_W.fn rfl rfl ?_
          refine ev_W.br rfl rfl (fun ga => ?_) (fun ga => ?_)
          · rw [if_neg (by rw [zb_n0.mp ga]; decide)] at k
            refine ev_W.fn rfl rfl ?_
            refine ev_W.clR rfl rfl rfl rfl rfl R.ob ?_
            refine sp_Z_answer R hc hd (by decide) (fun t3 u3 R3 E3 => ?_)
            refine ev_W.ret rfl rfl ?_
            exact k _ _ R3 (rf_E.tr E20 (E3))
          · rw [if_pos (zb_1.mp ga)] at k
            refine ev_W.fn rfl rfl ?_
            refine ev_W.fn rfl rfl ?_
            refine ev_W.clR rfl rfl rfl rfl rfl R.ob ?_
            refine sp_Z_answer R hc hd (by decide) (fun t4 u4 R4 E4 => ?_)
            refine ev_W.ret rfl rfl ?_
            exact k _ _ R4 (rf_E.tr E20 (E4))
    refine ev_W.fn rfl rfl ?_
    refine ev_W.g15 R rfl ?_
    refine ev_W.fn rfl rfl ?_
    refine ev_W.br rfl rfl (fun g2 => ?_) (fun g2 => ?_)
    · refine fin _ _ _ R E' rfl (fun t3 h3' R3 E3 => k t3 h3' ?_ E3)
      by_cases q1 : p.2.2.2.2.1 = 1
      · rw [if_pos q1] at R3 ⊢; exact R3
      · rw [if_neg q1, if_neg g2] at R3 ⊢; exact R3
    · have g2 := Decidable.not_not.mp g2
      have q1 : ¬ p.2.2.2.2.1 = 1 := by rw [g2]; decide
      rw [if_neg q1, if_pos g2] at k
      refine ev_W.fn rfl rfl ?_
      refine ev_W.br rfl rfl (fun g3 => ?_) (fun g3 => ?_)
      · have g3 := zb_n0.mp g3
        refine fin _ _ _ R E' rfl (fun t3 h3' R3 E3 => k t3 h3' ?_ E3)
        rw [if_neg q1, if_pos g2] at R3
        rw [if_neg (by rw [g3]; decide)] at R3 ⊢
        rw [if_neg (by rw [g3]; decide)]
        exact R3
      · have g3 := zb_1.mp g3
        refine ev_W.fn rfl rfl ?_
        refine ev_W.obj rfl R.ob rfl ?_
        refine ev_W.fn rfl rfl ?_
        refine ev_W.fn rfl rfl ?_
        refine ev_W.p55a R hc (show id < 9 by omega) hk13 ixh rfl (fun t1 u1 R1 E1 => ?_)
        refine fin _ _ _ R1 (rf_E.tr E' (E1)) rfl (fun t3 h3' R3 E3 => k t3 h3' ?_ E3)
        rw [if_neg q1, if_pos g2, ← eid] at R3
        rw [if_pos g3] at R3 ⊢
        rw [if_pos g3]
        exact R3
  -- the accepting
  have acc : ¬ (p.2.2.2.2.1 = 2 ∧ hbit (sI s 13 c) p.2.1 = true) → ∀ (t' : rf_S) (h' : ev_H), zR z m0 s p t' h' → rf_E m0 h h' → ev_W (mk_Z_published z) (33, [some (.ref m0), some (.int (nI c)), some (.int (9 * nI c + p.2.1)), some (.int 0), none], [], h') Q := by
    intro hn t' h' R E'
    have eA : M_rpA s c p.2.1 p.2.2.1 p.2.2.2.1 p.2.2.2.2.1 p.2.2.2.2.2.2.1 = M_acc s c (p.2.2.2.1, p.2.2.1, p.2.2.2.2.1, p.2.2.2.2.2.2.1) := by unfold M_rpA; rw [if_neg hn]
    have HA := HI_acc (c' := c) (m := (p.2.2.2.1, p.2.2.1, p.2.2.2.2.1, p.2.2.2.2.2.2.1)) (Nat.le_refl _) ⟨hT, hq⟩ H
    refine ev_W.fn rfl rfl ?_
    refine ev_W.fn rfl rfl ?_
    refine ev_W.fn rfl rfl ?_
    refine ev_W.fn rfl rfl ?_
    refine ev_W.fn rfl rfl ?_
    refine ev_W.g17 R h1 rfl ?_
    refine ev_W.fn rfl rfl ?_
    refine ev_W.g14 R rfl ?_
    refine ev_W.fn rfl rfl ?_
    refine ev_W.g15 R rfl ?_
    refine ev_W.fn rfl rfl ?_
    refine ev_W.g16 R rfl ?_
    refine ev_W.clR rfl rfl rfl rfl rfl R.ob ?_
    refine sp_Z_accept R hc hT hq hD H.1 H.2 (fun t1 u1 R1 E1 => ?_)
    refine ev_W.br rfl rfl (fun g1 => ?_) (fun g1 => ?_)
    · refine ev_W.fn rfl rfl ?_
      refine ev_W.fn rfl rfl ?_
      have nx := ans _ _ _ (some (.int 0)) R1 (rf_E.tr E' (E1)) eA.symm HA
      rw [zb_n0.mp g1] at nx
      exact nx
    · refine ev_W.fn rfl rfl ?_
      refine ev_W.fn rfl rfl ?_
      refine ev_W.fn rfl rfl ?_
      have nx := ans _ _ _ (some (.int 0)) R1 (rf_E.tr E' (E1)) eA.symm HA
      rw [zb_1.mp g1] at nx
      exact nx
  refine ev_M.go rfl rfl ?_
  refine ev_W.fn rfl rfl ?_
  refine ev_W.fn rfl rfl ?_
  refine ev_W.fn rfl rfl ?_
  refine ev_W.fn rfl rfl ?_
  refine ev_W.g13 R rfl ?_
  refine ev_W.fn rfl rfl ?_
  refine ev_W.fn rfl rfl ?_
  refine ev_W.fn rfl rfl ?_
  refine ev_W.g15 R rfl ?_
  refine ev_W.fn rfl rfl ?_
  refine ev_W.br rfl rfl (fun g1 => ?_) (fun g1 => ?_)
  · refine ev_W.fn rfl rfl ?_
    refine ev_W.fn rfl rfl ?_
    exact acc (fun q => g1 q.1) _ _ R rf_E.rf
  · have g1 := Decidable.not_not.mp g1
    refine ev_W.fn rfl rfl ?_
    refine ev_W.obj rfl R.ob rfl ?_
    refine ev_W.fn rfl rfl ?_
    refine ev_W.g55 R hc (show id < 9 by omega) ixh rfl ?_
    refine ev_W.br rfl rfl (fun g2 => ?_) (fun g2 => ?_)
    · refine ev_W.fn rfl rfl ?_
      refine ev_W.fn rfl rfl ?_
      exact acc (fun q => by rw [eid] at q; rw [zb_n0.mp g2] at q; exact absurd q.2 (by decide)) _ _ R rf_E.rf
    · refine ev_W.fn rfl rfl ?_
      refine ev_W.fn rfl rfl ?_
      refine ev_W.fn rfl rfl ?_
      refine ev_W.fn rfl rfl ?_
      refine ev_W.fn rfl rfl ?_
      refine ev_W.fn rfl rfl ?_
      refine ev_W.fn rfl rfl ?_
      refine ev_W.fn rfl rfl ?_
      have eA : M_rpA s c p.2.1 p.2.2.1 p.2.2.2.1 p.2.2.2.2.1 p.2.2.2.2.2.2.1 = (s, true) := by unfold M_rpA; rw [if_pos ⟨g1, by rw [eid]; exact zb_1.mp g2⟩]
      exact ans (s, true) _ _ (some (.int 1)) R rf_E.rf eA.symm H
abbrev apl (id : Int32) : hb_Pa → Bool := fun x => decide (x.2.2 = id)
theorem sp_zap_loop (R : zR z m0 s p t h) (hc : c < 3) (h3 : (sP s (3 + c)).length ≤ 3) (k : Q (some (.int (on_i (ix_of (apl p.2.1) (sP s (3 + c)) 0))), h)) : ∀ (B A : List hb_Pa), sP s (3 + c) = A ++ B → ix_of (apl p.2.1) (sP s (3 + c)) 0 = ix_of (apl p.2.1) B A.length → ev_W (mk_Z_awayPlace z) (2, [some (.ref m0), some (.int (nI c)), some (.int (nI A.length))], [], h) Q := by
  intro B
  induction B with
  | nil =>
    intro A hl e
    rw [List.append_nil] at hl
    rw [e] at k
    refine ev_W.fn rfl rfl ?_
    refine ev_W.fn rfl rfl ?_
    refine ev_W.obj rfl R.ob rfl ?_
    refine ev_W.fn rfl rfl ?_
    refine ev_W.g47 R hc rfl rfl ?_
    refine ev_W.brT rfl rfl (nI_le (by rw [hl]; exact Nat.le_refl _) (by rw [hl] at h3; omega)) ?_
    refine ev_W.fn rfl rfl ?_
    refine ev_W.ret rfl rfl ?_
    exact k
  | cons x B ih =>
    intro A hl e
    have hL : (sP s (3 + c)).length = A.length + 1 + B.length := by rw [hl]; simp; omega
    have hx : (sP s (3 + c))[A.length]? = some x := by rw [hl]; simp
    refine ev_W.fn rfl rfl ?_
    refine ev_W.fn rfl rfl ?_
    refine ev_W.obj rfl R.ob rfl ?_
    refine ev_W.fn rfl rfl ?_
    refine ev_W.g47 R hc rfl rfl ?_
    refine ev_W.brF rfl rfl (nI_ge (by omega) (by omega)) ?_
    refine ev_W.fn rfl rfl ?_
    refine ev_W.obj rfl R.ob rfl ?_
    refine ev_W.fn rfl rfl ?_
    refine ev_W.fn rfl rfl ?_
    refine ev_W.fn rfl rfl ?_
    refine ev_W.fn rfl rfl ?_
    refine ev_W.fn rfl rfl ?_
    refine ev_W.g54 R hc hx (zma 8 c _) rfl ?_
    refine ev_W.fn rfl rfl ?_
    refine ev_W.g13 R rfl ?_
    refine ev_W.br rfl rfl (fun h2 => ?_) (fun h2 => ?_)
    · refine ev_W.fn rfl rfl ?_
      refine ev_W.fn rfl rfl ?_
      have nx := ih (A ++ [x]) (by rw [hl]; simp) (by rw [e, ix_of, show apl p.2.1 x = false from decide_eq_false h2, if_neg (by decide)]; simp)
      rw [List.length_append] at nx
      have e2 : nI (A.length + [x].length) = nI A.length + 1 := (nI_1 _).symm
      rw [e2] at nx
      exact nx
    · refine ev_W.fn rfl rfl ?_
      refine ev_W.ret rfl rfl ?_
      rw [e, ix_of, if_pos (decide_eq_true (Decidable.not_not.mp h2))] at k
      exact k
theorem sp_Z_awayPlace (R : zR z m0 s p t h) (hc : c < 3) (h3 : (sP s (3 + c)).length ≤ 3) (k : Q (some (.int (on_i (ix_of (apl p.2.1) (sP s (3 + c)) 0))), h)) : ev_M (mf_Z_awayPlace z) [.ref m0, .int (nI c)] h Q := by
  refine ev_M.go rfl rfl ?_
  refine ev_W.fn rfl rfl ?_
  refine ev_W.fn rfl rfl ?_
  exact sp_zap_loop R hc h3 k _ [] rfl rfl
end ZU
section ZUa
variable {z : Nat × Nat} {m0 : Nat} {s : hb_S} {p : hb_Pk} {t : rf_S} {h : ev_H} {Q : ev_O → Prop} {c l : Nat} {C : ev_C} {pc nx : Nat} {L : ev_L} {r : List Value} {i : Int32}
theorem ev_W.p53s {v : Int32} {j : Nat} {x : hb_Pa} (R : zR z m0 s p t h) (hc : c < 3) (hx : (sP s (3 + c))[j]? = some x) (hi : i = nI (8 * c + j)) (hf : ev_find C pc = some (ev_fn (ev_iast nx))) (k : ∀ t' h', zR z m0 (tP s (3 + c) ((sP s (3 + c)).set j (x.1, v, x.2.2))) p t' h' → rf_E m0 h h' → ev_W C (nx, L, r, h') Q) : ev_W C (pc, L, .int v :: .int i :: .ref (m0 + (1 + rf_r 53)) :: r, h) Q := by
  have h1 := (List.getElem?_eq_some_iff.mp hx).1
  have h7 := R.2.2.2.2.2.2.1 c hc
  obtain ⟨hn, hq, hu, hm⟩ := R.2.1.u c hc
  refine ev_W.si 53 R.1 rfl hi (show 8 * c + j < 24 by omega) hf (fun h' P E => k (uI t 53 (8 * c + j) v) h' ?_ E)
  have eS : tP (tM s c (sM s c)) (3 + c) ((sP s (3 + c)).set j (x.1, v, x.2.2)) = tP s (3 + c) ((sP s (3 + c)).set j (x.1, v, x.2.2)) := by rw [tM_id rfl]
  rw [← eS]
  refine R.here hc P (ag.rf.wI v (Or.inr ⟨by decide, by decide, by omega, by omega⟩)) rfl (by rw [List.length_set]; exact h7) ⟨?_, ?_, fun n y hy => ?_, fun n y hy => ?_⟩
  · rw [uI_1, if_neg (by omega), List.length_set]; exact hn
  · rw [uI_1, if_neg (by omega)]; exact hq
  · by_cases e : n = j
    · subst e
      rw [List.getElem?_set_self h1] at hy
      cases hy
      obtain ⟨⟨a1, a2, a3, a4⟩, a5, a6⟩ := hu n x hx
      refine ⟨⟨a1, ?_, ?_, ?_⟩, ?_, ?_⟩
      · rw [uI_1, if_neg (by omega)]; exact a2
      · rw [uI_1, if_neg (by omega)]; exact a3
      · rw [uI_1, if_neg (by omega)]; exact a4
      · rw [uI_1, if_pos ⟨rfl, rfl⟩]
      · rw [uI_1, if_neg (by omega)]; exact a6
    · rw [List.getElem?_set_ne (fun q => e q.symm)] at hy
      obtain ⟨⟨a1, a2, a3, a4⟩, a5, a6⟩ := hu n y hy
      refine ⟨⟨a1, ?_, ?_, ?_⟩, ?_, ?_⟩
      · rw [uI_1, if_neg (by omega)]; exact a2
      · rw [uI_1, if_neg (by omega)]; exact a3
      · rw [uI_1, if_neg (by omega)]; exact a4
      · rw [uI_1, if_neg (by omega)]; exact a5
      · rw [uI_1, if_neg (by omega)]; exact a6
  · rw [List.length_set]
    obtain ⟨a1, a2, a3, a4⟩ := hm n y hy
    refine ⟨a1, ?_, ?_, ?_⟩
    · rw [uI_1, if_neg (by omega)]; exact a2
    · rw [uI_1, if_neg (by omega)]; exact a3
    · rw [uI_1, if_neg (by omega)]; exact a4
end ZUa
section ZUb
variable {z : Nat × Nat} {m0 : Nat} {s : hb_S} {p : hb_Pk} {t : rf_S} {h : ev_H} {Q : ev_O → Prop} {c l : Nat}
def M_ban (s : hb_S) (c : Nat) (p : hb_Pk) : hb_S := if p.1 = 4 then tP s (3 + c) (pa_fin (sP s (3 + c)) p.2.1 1 1) else if p.1 = 5 then M_send (tP s (3 + c) (pa_rel (sP s (3 + c)) p.2.1).1) c (mkp 6 p.2.1 0) else tP s (3 + c) (pa_fin (sP s (3 + c)) p.2.1 2 2)
theorem sp_Z_brokerAnswered {D Lu N : Nat} {x y : List hb_Pk} (R : zR z m0 s p t h) (hc : c < 3) (H : CI D Lu N x y s c) (hD : D ≤ 20) (ht : p.1 = 4 ∨ p.1 = 5 ∨ p.1 = 7) (k : ∀ t' h', zR z m0 (M_ban s c p) p t' h' → rf_E m0 h h' → Q (none, h')) : ev_M (mf_Z_brokerAnswered z) [.ref m0, .int (nI c)] h Q := by
  have hA := H.2.2.2.2.1.1
  have hd := H.2.2.2.2.1.2.1
  have h6 := H.2.2.2.2.2.1
  have h3 := h6.2.2.2.2
  have hdn := h6.2.2.1
  unfold M_ban at k
  refine ev_M.go rfl rfl ?_
  refine ev_W.fn rfl rfl ?_
  refine ev_W.fn rfl rfl ?_
  refine ev_W.clR rfl rfl rfl rfl rfl R.ob ?_
  refine sp_Z_awayPlace R hc h3 ?_
  generalize hix : ix_of (apl p.2.1) (sP s (3 + c)) 0 = w
  cases w with
  | none =>
    have nn : ∀ x, x ∈ sP s (3 + c) → ¬ (¬ x.2.1 = 0 ∧ x.2.2 = p.2.1) := fun x hx q => of_decide_eq_false (ix_none hix x hx) q.2
    rw [fin_none nn (by decide), fin_none nn (by decide), rel_none nn, tP_id rfl] at k
    refine ev_W.fn rfl rfl ?_
    refine ev_W.fn rfl rfl ?_
    refine ev_W.fn rfl rfl ?_
    refine ev_W.fn rfl rfl ?_
    refine ev_W.fn rfl rfl ?_
    refine ev_W.fn rfl rfl ?_
    refine ev_W.fn rfl rfl ?_
    refine ev_W.fn rfl rfl ?_
    refine ev_W.g12 R rfl ?_
    refine ev_W.fn rfl rfl ?_
    refine ev_W.br rfl rfl (fun g5 => ?_) (fun g5 => ?_)
    · refine ev_W.fn rfl rfl ?_
      refine ev_W.fn rfl rfl ?_
      refine ev_W.ret rfl rfl ?_
      rw [if_neg g5, ite_self] at k
      exact k _ _ R rf_E.rf
    · have g5 := Decidable.not_not.mp g5
      rw [if_neg (by rw [g5]; decide), if_pos g5] at k
      refine ev_W.fn rfl rfl ?_
      refine ev_W.fn rfl rfl ?_
      refine ev_W.fn rfl rfl ?_
      refine ev_W.fn rfl rfl ?_
      refine ev_W.fn rfl rfl ?_
      refine ev_W.fn rfl rfl ?_
      refine ev_W.clR rfl rfl rfl rfl rfl R.ob ?_
      refine sp_Z_answer R hc (by omega) (by decide) (fun t1 u1 R1 E1 => ?_)
      refine ev_W.fn rfl rfl ?_
      refine ev_W.ret rfl rfl ?_
      exact k _ _ R1 E1
  | some j =>
    obtain ⟨x, hx, hxP⟩ := ix_0 hix
    have xid := of_decide_eq_true hxP
    have hlt := (List.getElem?_eq_some_iff.mp hx).1
    have hP := hA x (List.mem_of_getElem? hx)
    have hid0 := hP.2.2.n0
    have x0 : ¬ x.2.1 = 0 := by rcases hP.2.1 with q | q; rw [q]; decide; rw [q.1]; decide
    have f1 := fun q st => fin_one (sP s (3 + c)) j x q st hd hx hid0
    have f2 := rel_one (sP s (3 + c)) j x hd hx hid0 x0
    rw [xid] at f1 f2
    have hj0 : ¬ nI j < 0 := nI_pos (by omega)
    refine ev_W.fn rfl rfl ?_
    refine ev_W.fn rfl rfl ?_
    refine ev_W.fn rfl rfl ?_
    refine ev_W.fn rfl rfl ?_
    refine ev_W.fn rfl rfl ?_
    refine ev_W.fn rfl rfl ?_
    refine ev_W.fn rfl rfl ?_
    refine ev_W.fn rfl rfl ?_
    refine ev_W.g12 R rfl ?_
    refine ev_W.fn rfl rfl ?_
    refine ev_W.br rfl rfl (fun g5 => ?_) (fun g5 => ?_)
    · refine ev_W.fn rfl rfl ?_
      refine ev_W.brF rfl rfl hj0 ?_
      refine ev_W.fn rfl rfl ?_
      refine ev_W.g12 R rfl ?_
      refine ev_W.fn rfl rfl ?_
      refine ev_W.br rfl rfl (fun g4 => ?_) (fun g4 => ?_)
      · rw [if_neg g4, if_neg g5, f1 2 2] at k
        refine ev_W.fn rfl rfl ?_
        refine ev_W.obj rfl R.ob rfl ?_
        refine ev_W.fn rfl rfl ?_
        refine ev_W.g53 R hc hx (zma 8 c _) rfl ?_
        refine ev_W.fn rfl rfl ?_
        refine ev_W.br rfl rfl (fun g2 => ?_) (fun g2 => ?_)
        · refine ev_W.ret rfl rfl ?_
          rw [if_neg (fun q => g2 q.2), tP_id rfl] at k
          exact k _ _ R rf_E.rf
        · have g2 := Decidable.not_not.mp g2
          have q2 : x.1.2.2.1 = 2 := by
            rcases hP.2.1 with q | q
            · rw [q] at g2; exact absurd g2 (by decide)
            · exact q.2
          rw [if_pos ⟨q2, g2⟩] at k
          refine ev_W.fn rfl rfl ?_
          refine ev_W.fn rfl rfl ?_
          refine ev_W.fn rfl rfl ?_
          refine ev_W.clR rfl rfl rfl rfl rfl R.ob ?_
          refine sp_Z_done R hc hlt (fun t1 u1 R1 E1 => ?_)
          refine ev_W.ret rfl rfl ?_
          exact k _ _ R1 E1
      · rw [if_pos (Decidable.not_not.mp g4), f1 1 1] at k
        refine ev_W.fn rfl rfl ?_
        refine ev_W.obj rfl R.ob rfl ?_
        refine ev_W.fn rfl rfl ?_
        refine ev_W.g51 R hc hx (zma 8 c _) rfl ?_
        refine ev_W.fn rfl rfl ?_
        refine ev_W.br rfl rfl (fun g2 => ?_) (fun g2 => ?_)
        · refine ev_W.ret rfl rfl ?_
          rw [if_neg (fun q => g2 q.1), tP_id rfl] at k
          exact k _ _ R rf_E.rf
        · have g2 := Decidable.not_not.mp g2
          have q2 : x.2.1 = 1 := by
            rcases hP.2.1 with q | q
            · exact q
            · rw [q.2] at g2; exact absurd g2 (by decide)
          rw [if_pos ⟨g2, q2⟩] at k
          refine ev_W.fn rfl rfl ?_
          refine ev_W.fn rfl rfl ?_
          refine ev_W.fn rfl rfl ?_
          refine ev_W.fn rfl rfl ?_
          refine ev_W.clR rfl rfl rfl rfl rfl R.ob ?_
          refine sp_Z_done R hc hlt (fun t2 u2 R2 E2 => ?_)
          refine ev_W.ret rfl rfl ?_
          exact k _ _ R2 E2
    · have g5 := Decidable.not_not.mp g5
      rw [if_neg (by rw [g5]; decide), if_pos g5, f2] at k
      refine ev_W.fn rfl rfl ?_
      refine ev_W.brF rfl rfl hj0 ?_
      refine ev_W.fn rfl rfl ?_
      refine ev_W.obj rfl R.ob rfl ?_
      refine ev_W.fn rfl rfl ?_
      refine ev_W.g51 R hc hx (zma 8 c _) rfl ?_
      refine ev_W.fn rfl rfl ?_
      refine ev_W.br rfl rfl (fun g2 => ?_) (fun g2 => ?_)
      · rw [if_neg g2, tP_id rfl] at k
        refine ev_W.fn rfl rfl ?_
        refine ev_W.fn rfl rfl ?_
        refine ev_W.fn rfl rfl ?_
        refine ev_W.fn rfl rfl ?_
        refine ev_W.clR rfl rfl rfl rfl rfl R.ob ?_
        refine sp_Z_answer R hc (by omega) (by decide) (fun t3 u3 R3 E3 => ?_)
        refine ev_W.fn rfl rfl ?_
        refine ev_W.ret rfl rfl ?_
        exact k _ _ R3 E3
      · rw [if_pos (Decidable.not_not.mp g2)] at k
        refine ev_W.fn rfl rfl ?_
        refine ev_W.obj rfl R.ob rfl ?_
        refine ev_W.fn rfl rfl ?_
        refine ev_W.fn rfl rfl ?_
        refine ev_W.p53s R hc hx (zma 8 c _) rfl (fun t4 u4 R4 E4 => ?_)
        refine ev_W.fn rfl rfl ?_
        refine ev_W.fn rfl rfl ?_
        refine ev_W.fn rfl rfl ?_
        refine ev_W.fn rfl rfl ?_
        refine ev_W.clR rfl rfl rfl rfl rfl R4.ob ?_
        refine sp_Z_answer R4 hc (by show (sN s (2 * c + 1)).length ≤ 30; omega) (by decide) (fun t5 u5 R5 E5 => ?_)
        refine ev_W.fn rfl rfl ?_
        refine ev_W.ret rfl rfl ?_
        rw [xid] at R5
        exact k _ _ R5 (E4.tr E5)
end ZUb
