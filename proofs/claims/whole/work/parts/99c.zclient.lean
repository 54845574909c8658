/-! The reference's client: answers, and all that it gets (laid by wip/whole/p99c.py). -/
section ZI
variable {z : Nat × Nat} {m0 : Nat} {s : hb_S} {p : hb_Pk} {t : rf_S} {h : ev_H} {Q : ev_O → Prop} {c l : Nat}
theorem idx_uniq {ps : List hb_Pa} {j j2 : Nat} {x x2 : hb_Pa} (d : dst ps) (hx : ps[j]? = some x) (hx2 : ps[j2]? = some x2) (e : x.2.2 = x2.2.2) (h0 : ¬ x.2.2 = 0) : x = x2 := by
  have l1 := List.getElem?_eq_some_iff.mp hx
  have l2 := List.getElem?_eq_some_iff.mp hx2
  have u : j = j2 := by
    rcases Nat.lt_trichotomy j j2 with q | q | q
    · have g := (List.pairwise_iff_getElem.mp d) j j2 l1.1 l2.1 q
      rw [l1.2, l2.2] at g
      exact absurd e (g.resolve_left h0)
    · exact q
    · have g := (List.pairwise_iff_getElem.mp d) j2 j l2.1 l1.1 q
      rw [l1.2, l2.2] at g
      exact absurd e.symm (g.resolve_left (by rw [← e]; exact h0))
  subst u
  rw [hx] at hx2; exact Option.some.inj hx2
-- the client's answers; a PUBREC finds its parcel under way, once sent
def M_can (s : hb_S) (c : Nat) (p : hb_Pk) : hb_S := if p.1 = 4 then tP s c (pa_fin (sP s c) p.2.1 1 1) else if p.1 = 5 then M_crc s c p.2.1 p.2.2.1 else tP s c (pa_fin (sP s c) p.2.1 2 2)
theorem sp_Z_clientAnswered (R : zR z m0 s p t h) (hc : c < 3) (hS : okS (sP s c)) (hu : (sN s (2 * c)).length ≤ 20) (ht : p.1 = 4 ∨ p.1 = 5 ∨ p.1 = 7) (h5 : p.1 = 5 → ∃ (j : Nat) (x : hb_Pa), (sP s c)[j]? = some x ∧ x.2.1 = 1 ∧ x.1.2.2.1 = 2 ∧ x.2.2 = p.2.1) (k : ∀ t' h', zR z m0 (M_can s c p) p t' h' → rf_E m0 h h' → Q (none, h')) : ev_M (mf_Z_clientAnswered z) [.ref m0, .int (nI c)] h Q := by
  have h4 := hS.1
  unfold M_can at k
  refine ev_M.go rfl rfl ?_
  refine ev_W.fn rfl rfl ?_
  refine ev_W.fn rfl rfl ?_
  refine ev_W.clR rfl rfl rfl rfl rfl R.ob ?_
  refine sp_Z_storePlace R hc hS ?_
  generalize hix : ix_of (spl p.2.1) (sP s c) 0 = w
  cases w with
  | none =>
    have nn : ∀ x, x ∈ sP s c → ¬ (¬ x.2.1 = 0 ∧ x.2.2 = p.2.1) := fun x hx => of_decide_eq_false (ix_none hix x hx)
    have k1 := k t h (by
      split
      · rw [fin_none nn (by decide), tP_id rfl]; exact R
      · split
        · rename_i q5
          obtain ⟨j, x, hx, x1, _, x2⟩ := h5 q5
          exact absurd ⟨by rw [x1]; decide, x2⟩ (nn x (List.mem_of_getElem? hx))
        · rw [fin_none nn (by decide), tP_id rfl]; exact R) rf_E.rf
    refine ev_W.fn rfl rfl ?_
    refine ev_W.fn rfl rfl ?_
    refine ev_W.fn rfl rfl ?_
    refine ev_W.ret rfl rfl ?_
    exact k1
  | some j =>
    obtain ⟨x, hx, hxP⟩ := ix_0 hix
    obtain ⟨x0, xid⟩ := of_decide_eq_true hxP
    have hlt := (List.getElem?_eq_some_iff.mp hx).1
    have hP := hS.2.1 x (List.mem_of_getElem? hx)
    have hid0 : ¬ x.2.2 = 0 := by
      rcases hP.st with ⟨a, _⟩ | ⟨_, a⟩ | ⟨_, a, _⟩
      · exact absurd a x0
      · exact a.n0
      · exact a.n0
    have f1 := fun q st => fin_one (sP s c) j x q st hS.2.2.1 hx hid0
    have f2 := rel_one (sP s c) j x hS.2.2.1 hx hid0 x0
    rw [xid] at f1 f2
    refine ev_W.fn rfl rfl ?_
    refine ev_W.fn rfl rfl ?_
    refine ev_W.brT rfl rfl (nI_pos' (by omega)) ?_
    refine ev_W.fn rfl rfl ?_
    refine ev_W.fn rfl rfl ?_
    refine ev_W.fn rfl rfl ?_
    refine ev_W.fn rfl rfl ?_
    refine ev_W.fn rfl rfl ?_
    refine ev_W.fn rfl rfl ?_
    refine ev_W.fn rfl rfl ?_
    refine ev_W.g12 R rfl ?_
    refine ev_W.fn rfl rfl ?_
    refine ev_W.br rfl rfl (fun h1 => ?_) (fun h1 => ?_)
    · refine ev_W.fn rfl rfl ?_
      refine ev_W.g12 R rfl ?_
      refine ev_W.fn rfl rfl ?_
      refine ev_W.br rfl rfl (fun h2 => ?_) (fun h2 => ?_)
      · have e5 : p.1 = 5 := ht.elim (fun q => absurd q h1) (fun q => q.elim id (fun q => absurd q h2))
        rw [if_neg h1, if_pos e5] at k
        obtain ⟨j2, x2, hx2, y1, y2, y3⟩ := h5 e5
        have exx : x = x2 := idx_uniq hS.2.2.1 hx hx2 (xid.trans y3.symm) hid0
        subst exx
        unfold M_crc at k
        refine ev_W.fn rfl rfl ?_
        refine ev_W.g12 R rfl ?_
        refine ev_W.fn rfl rfl ?_
        refine ev_W.brF rfl rfl (fun q => q e5) ?_
        refine ev_W.fn rfl rfl ?_
        refine ev_W.obj rfl R.ob rfl ?_
        refine ev_W.fn rfl rfl ?_
        refine ev_W.g26 R hc hx (zma 4 c _) rfl ?_
        refine ev_W.fn rfl rfl ?_
        refine ev_W.brF rfl rfl (fun q => q y2) ?_
        refine ev_W.fn rfl rfl ?_
        refine ev_W.g14 R rfl ?_
        refine ev_W.fn rfl rfl ?_
        refine ev_W.br rfl rfl (fun h3 => ?_) (fun h3 => ?_)
        · rw [if_neg h3, f2, if_pos y2, if_pos rfl] at k
          have e2 : (2 : Int32) * nI c = nI (2 * c) := zm 2 c
          refine ev_W.fn rfl rfl ?_
          refine ev_W.obj rfl R.ob rfl ?_
          refine ev_W.fn rfl rfl ?_
          refine ev_W.fn rfl rfl ?_
          refine ev_W.p28s R hc hx (fun _ => R.id hc hx x0) (zma 4 c _) rfl (fun t1 u1 R1 E1 => ?_)
          refine ev_W.fn rfl rfl ?_
          refine ev_W.fn rfl rfl ?_
          refine ev_W.fn rfl rfl ?_
          refine ev_W.fn rfl rfl ?_
          refine ev_W.fn rfl rfl ?_
          refine ev_W.fn rfl rfl ?_
          refine ev_W.g13 R1 rfl ?_
          refine ev_W.fn rfl rfl ?_
          refine ev_W.clR rfl rfl rfl rfl rfl R1.ob ?_
          rw [e2]
          refine sp_Z_send R1 (l := 2 * c) (by omega) (by show (sN s (2 * c)).length ≤ 30; omega) (by decide) (fun t2 u2 R2 E2 => ?_)
          refine ev_W.fn rfl rfl ?_
          refine ev_W.ret rfl rfl ?_
          rw [xid] at R2
          exact k _ _ R2 (E1.tr E2)
        · refine ev_W.fn rfl rfl ?_
          refine ev_W.obj rfl R.ob rfl ?_
          refine ev_W.fn rfl rfl ?_
          refine ev_W.g28 R hc hx (zma 4 c _) rfl ?_
          refine ev_W.fn rfl rfl ?_
          refine ev_W.brF rfl rfl (fun q => q y1) ?_
          rw [if_pos (Decidable.not_not.mp h3), f1 2 1, if_pos ⟨y2, y1⟩] at k
          refine ev_W.fn rfl rfl ?_
          refine ev_W.fn rfl rfl ?_
          refine ev_W.fn rfl rfl ?_
          refine ev_W.clR rfl rfl rfl rfl rfl R.ob ?_
          refine sp_Z_forget R hc hlt (fun t3 u3 R3 E3 => ?_)
          refine ev_W.fn rfl rfl ?_
          refine ev_W.ret rfl rfl ?_
          exact k _ _ R3 E3
      · have h2 := Decidable.not_not.mp h2
        rw [if_neg h1, if_neg (by rw [h2]; decide), f1 2 2] at k
        refine ev_W.fn rfl rfl ?_
        refine ev_W.obj rfl R.ob rfl ?_
        refine ev_W.fn rfl rfl ?_
        refine ev_W.g28 R hc hx (zma 4 c _) rfl ?_
        refine ev_W.fn rfl rfl ?_
        refine ev_W.br rfl rfl (fun h3 => ?_) (fun h3 => ?_)
        · rw [if_neg (fun q => h3 q.2), tP_id rfl] at k
          refine ev_W.fn rfl rfl ?_
          refine ev_W.g12 R rfl ?_
          refine ev_W.fn rfl rfl ?_
          refine ev_W.brT rfl rfl (by rw [h2]; decide) ?_
          refine ev_W.ret rfl rfl ?_
          exact k _ _ R rf_E.rf
        · have h3 := Decidable.not_not.mp h3
          have q2 : x.1.2.2.1 = 2 := by
            rcases hP.st with ⟨a, _⟩ | ⟨a, _⟩ | ⟨_, _, a⟩
            · exact absurd a x0
            · rw [a] at h3; exact absurd h3 (by decide)
            · exact a
          rw [if_pos ⟨q2, h3⟩] at k
          refine ev_W.fn rfl rfl ?_
          refine ev_W.fn rfl rfl ?_
          refine ev_W.fn rfl rfl ?_
          refine ev_W.clR rfl rfl rfl rfl rfl R.ob ?_
          refine sp_Z_forget R hc hlt (fun t4 u4 R4 E4 => ?_)
          refine ev_W.fn rfl rfl ?_
          refine ev_W.ret rfl rfl ?_
          exact k _ _ R4 E4
    · have h1 := Decidable.not_not.mp h1
      rw [if_pos h1, f1 1 1] at k
      refine ev_W.fn rfl rfl ?_
      refine ev_W.obj rfl R.ob rfl ?_
      refine ev_W.fn rfl rfl ?_
      refine ev_W.g26 R hc hx (zma 4 c _) rfl ?_
      refine ev_W.fn rfl rfl ?_
      refine ev_W.br rfl rfl (fun h2 => ?_) (fun h2 => ?_)
      · have s1 : x.2.1 = 1 := by
          rcases hP.st with ⟨a, _⟩ | ⟨a, _⟩ | ⟨_, _, a⟩
          · exact absurd a x0
          · exact a
          · rw [a] at h2; exact absurd h2 (by decide)
        rw [if_pos ⟨h2, s1⟩] at k
        refine ev_W.fn rfl rfl ?_
        refine ev_W.fn rfl rfl ?_
        refine ev_W.fn rfl rfl ?_
        refine ev_W.clR rfl rfl rfl rfl rfl R.ob ?_
        refine sp_Z_forget R hc hlt (fun t5 u5 R5 E5 => ?_)
        refine ev_W.fn rfl rfl ?_
        refine ev_W.ret rfl rfl ?_
        exact k _ _ R5 E5
      · rw [if_neg (fun q => h2 q.1), tP_id rfl] at k
        refine ev_W.fn rfl rfl ?_
        refine ev_W.g12 R rfl ?_
        refine ev_W.fn rfl rfl ?_
        refine ev_W.brT rfl rfl (by rw [h1]; decide) ?_
        refine ev_W.fn rfl rfl ?_
        refine ev_W.g12 R rfl ?_
        refine ev_W.fn rfl rfl ?_
        refine ev_W.brT rfl rfl (by rw [h1]; decide) ?_
        refine ev_W.ret rfl rfl ?_
        exact k _ _ R rf_E.rf
theorem rec_at {D L n : Nat} {s : hb_S} {c : Nat} {p : hb_Pk} (h5 : p.1 = 5) (H : CI D L n [] [p] s c) : ∃ (j : Nat) (x : hb_Pa), (sP s c)[j]? = some x ∧ x.2.1 = 1 ∧ x.1.2.2.1 = 2 ∧ x.2.2 = p.2.1 := by
  have l4 := H.2.2.1.2.2.2.1 p.2.1
  have e : isR p.2.1 p = true := decide_eq_true ⟨h5, rfl⟩
  rw [List.singleton_append, List.countP_cons, if_pos e] at l4
  have : 0 < (sP s c).countP (isS p.2.1) := by omega
  obtain ⟨x, hx, hq⟩ := List.countP_pos_iff.mp this
  obtain ⟨j, hj, e2⟩ := List.mem_iff_getElem.mp hx
  have q := of_decide_eq_true hq
  exact ⟨j, x, by rw [List.getElem?_eq_getElem hj, e2], q.1, q.2.1, q.2.2⟩
theorem sp_Z_clientGets {D n : Nat} (R : zR z m0 s p t h) (hc : c < 3) (hp : oD p) (H : CI D 11 n [] [p] s c) (hn : n < 2 ^ 30) (k : ∀ t' h', zR z m0 (M_crv s c p) p t' h' → rf_E m0 h h' → Q (none, h')) : ev_M (mf_Z_clientGets z) [.ref m0, .int (nI c)] h Q := by
  have hS := H.2.2.2.1
  have hu := H.1.2
  have h4 := hS.1
  have hk4 := H.2.2.2.2.2.2.2.2.2.2.1
  obtain ⟨n2, hn2, en2⟩ := H.2.2.2.2.2.2.2.2.2.2.2.2.1
  have e2 : (2 : Int32) * nI c = nI (2 * c) := zm 2 c
  have eM : M_crv s c p = if p.1 = 2 then M_ack s c p.2.2.1 else if p.1 = 3 then M_crp1 (M_crp0 s c p.2.1 p.2.2.1 p.2.2.2.2.1) c p.2.1 p.2.2.2.2.1 else if p.1 = 6 then M_crl s c p.2.1 else if p.1 = 4 then M_cpump (tP s c (pa_fin (sP s c) p.2.1 1 1)) c else if p.1 = 5 then M_cpump (M_crc s c p.2.1 p.2.2.1) c else if p.1 = 7 then M_cpump (tP s c (pa_fin (sP s c) p.2.1 2 2)) c else s := rfl
  rw [eM] at k
  refine ev_M.go rfl rfl ?_
  refine ev_W.fn rfl rfl ?_
  refine ev_W.g12 R rfl ?_
  refine ev_W.fn rfl rfl ?_
  refine ev_W.br rfl rfl (fun h1 => ?_) (fun h1 => ?_)
  · refine ev_W.fn rfl rfl ?_
    refine ev_W.g12 R rfl ?_
    refine ev_W.fn rfl rfl ?_
    refine ev_W.br rfl rfl (fun h2 => ?_) (fun h2 => ?_)
    · refine ev_W.fn rfl rfl ?_
      refine ev_W.g12 R rfl ?_
      refine ev_W.fn rfl rfl ?_
      refine ev_W.br rfl rfl (fun h3 => ?_) (fun h3 => ?_)
      · refine ev_W.fn rfl rfl ?_
        refine ev_W.g12 R rfl ?_
        refine ev_W.fn rfl rfl ?_
        refine ev_W.br rfl rfl (fun h5 => ?_) (fun h5 => ?_)
        · have hno : ¬ p.1 = 4 ∧ ¬ p.1 = 5 ∧ ¬ p.1 = 7 := ⟨fun q => by rw [q] at h5; exact absurd h5 (by decide), fun q => by rw [q] at h5; exact absurd h5 (by decide), fun q => by rw [q] at h5; exact absurd h5 (by decide)⟩
          rw [if_neg h1, if_neg h2, if_neg h3, if_neg hno.1, if_neg hno.2.1, if_neg hno.2.2] at k
          refine ev_W.ret rfl rfl ?_
          exact k _ _ R rf_E.rf
        · refine ev_W.fn rfl rfl ?_
          refine ev_W.g12 R rfl ?_
          refine ev_W.fn rfl rfl ?_
          refine ev_W.br rfl rfl (fun h6 => ?_) (fun h6 => ?_)
          · have hno : ¬ p.1 = 4 ∧ ¬ p.1 = 5 ∧ ¬ p.1 = 7 := ⟨fun q => by rw [q] at h6; exact absurd h6 (by decide), fun q => by rw [q] at h6; exact absurd h6 (by decide), fun q => by rw [q] at h6; exact absurd h6 (by decide)⟩
            rw [if_neg h1, if_neg h2, if_neg h3, if_neg hno.1, if_neg hno.2.1, if_neg hno.2.2] at k
            refine ev_W.ret rfl rfl ?_
            exact k _ _ R rf_E.rf
          · have ht : p.1 = 4 ∨ p.1 = 5 ∨ p.1 = 7 := by
              rcases hp.1 with q | q | q | q | q | q | q | q | q
              · exact absurd q h1
              · exact absurd q h2
              · exact absurd q h3
              · exact Or.inl q
              · exact Or.inr (Or.inl q)
              · exact Or.inr (Or.inr q)
              · rw [q] at h6; exact absurd (by decide) h6
              · rw [q] at h6; exact absurd (by decide) h6
              · rw [q] at h6; exact absurd (by decide) h6
            have eC : M_cpump (M_can s c p) c = if p.1 = 4 then M_cpump (tP s c (pa_fin (sP s c) p.2.1 1 1)) c else if p.1 = 5 then M_cpump (M_crc s c p.2.1 p.2.2.1) c else if p.1 = 7 then M_cpump (tP s c (pa_fin (sP s c) p.2.1 2 2)) c else s := by
              unfold M_can
              rcases ht with q | q | q
              · rw [if_pos q, if_pos q]
              · rw [if_neg (by rw [q]; decide), if_pos q, if_neg (by rw [q]; decide), if_pos q]
              · rw [if_neg (by rw [q]; decide), if_neg (by rw [q]; decide), if_neg (by rw [q]; decide), if_neg (by rw [q]; decide), if_pos q]
            have hC : CI D 12 n [] [] (M_can s c p) c := by
              unfold M_can
              rcases ht with q | q | q
              · rw [if_pos q]; exact (CI_finC hc _ 1 1 (by decide) H).mono (Nat.le_refl _) (by decide) (Nat.le_refl _)
              · rw [if_neg (by rw [q]; decide), if_pos q]; exact (CI_crc hc q (hp.2.2.2 q) H).1
              · rw [if_neg (by rw [q]; decide), if_neg (by rw [q]; decide)]; exact (CI_finC hc _ 2 2 (by decide) H).mono (Nat.le_refl _) (by decide) (Nat.le_refl _)
            rw [if_neg h1, if_neg h2, if_neg h3, ← eC] at k
            refine ev_W.fn rfl rfl ?_
            refine ev_W.fn rfl rfl ?_
            refine ev_W.clR rfl rfl rfl rfl rfl R.ob ?_
            refine sp_Z_clientAnswered R hc hS (by omega) ht (fun q => rec_at q H) (fun t1 u1 R1 E1 => ?_)
            refine ev_W.fn rfl rfl ?_
            refine ev_W.fn rfl rfl ?_
            refine ev_W.clR rfl rfl rfl rfl rfl R1.ob ?_
            refine sp_Z_pumpClient R1 hc hC.2.2.2.1 (by have := hC.1.2; omega) (fun t2 u2 R2 E2 => ?_)
            refine ev_W.ret rfl rfl ?_
            exact k _ _ R2 (E1.tr E2)
      · have h3 := Decidable.not_not.mp h3
        obtain ⟨id, hid, eid⟩ := hp.2.2.1 h3
        rw [if_neg h1, if_neg h2, if_pos h3] at k
        refine ev_W.fn rfl rfl ?_
        refine ev_W.obj rfl R.ob rfl ?_
        refine ev_W.fn rfl rfl ?_
        refine ev_W.fn rfl rfl ?_
        refine ev_W.fn rfl rfl ?_
        refine ev_W.fn rfl rfl ?_
        refine ev_W.g13 R rfl ?_
        refine ev_W.fn rfl rfl ?_
        refine ev_W.fn rfl rfl ?_
        refine ev_W.p30r R (j := id) hc (by omega) hk4 (by rw [eid]; exact zma 9 c id) rfl (fun t3 u3 R3 E3 => ?_)
        refine ev_W.fn rfl rfl ?_
        refine ev_W.fn rfl rfl ?_
        refine ev_W.fn rfl rfl ?_
        refine ev_W.fn rfl rfl ?_
        refine ev_W.fn rfl rfl ?_
        refine ev_W.fn rfl rfl ?_
        refine ev_W.g13 R3 rfl ?_
        refine ev_W.fn rfl rfl ?_
        refine ev_W.clR rfl rfl rfl rfl rfl R3.ob ?_
        rw [e2]
        refine sp_Z_send R3 (l := 2 * c) (by omega) (by show (sN s (2 * c)).length ≤ 30; omega) (by decide) (fun t4 u4 R4 E4 => ?_)
        refine ev_W.fn rfl rfl ?_
        refine ev_W.fn rfl rfl ?_
        refine ev_W.ret rfl rfl ?_
        rw [← eid] at R4
        exact k _ _ R4 (E3.tr E4)
    · have h2 := Decidable.not_not.mp h2
      obtain ⟨hq, id, hid, eid⟩ := hp.2.1 h2
      rw [if_neg h1, if_pos h2] at k
      have ixh : 9 * nI c + p.2.1 = nI (9 * c + id) := by rw [eid]; exact zma 9 c id
      obtain ⟨k4, hk4l, ek4⟩ := hk4
      -- the sending
      have snd : ∀ (s' : hb_S) (t' : rf_S) (h' : ev_H), zR z m0 s' p t' h' → rf_E m0 h h' → (sN s' (2 * c)).length ≤ 20 → (∀ t2 h2, zR z m0 (if p.2.2.2.2.1 = 1 then M_up s' c (mkp 4 p.2.1 0) else if p.2.2.2.2.1 = 2 then M_up s' c (mkp 5 p.2.1 0) else s') p t2 h2 → rf_E m0 h h2 → Q (none, h2)) → ev_W (mk_Z_clientGets z) (84, [some (.ref m0), some (.int (nI c)), some (.int (9 * nI c + p.2.1))], [], h') Q := by
        intro s' t' h' R E' hu' k
        refine ev_W.fn rfl rfl ?_
        refine ev_W.g15 R rfl ?_
        refine ev_W.br rfl rfl (fun g1 => ?_) (fun g1 => ?_)
        · have q0 : p.2.2.2.2.1 = 0 := by
            rcases hq with q | q | q
            · exact q
            · rw [q] at g1; exact absurd g1 (by decide)
            · rw [q] at g1; exact absurd g1 (by decide)
          rw [if_neg (by rw [q0]; decide), if_neg (by rw [q0]; decide)] at k
          refine ev_W.fn rfl rfl ?_
          refine ev_W.ret rfl rfl ?_
          exact k _ _ R E'
        · refine ev_W.fn rfl rfl ?_
          refine ev_W.fn rfl rfl ?_
          refine ev_W.fn rfl rfl ?_
          refine ev_W.fn rfl rfl ?_
          refine ev_W.fn rfl rfl ?_
          refine ev_W.g15 R rfl ?_
          refine ev_W.fn rfl rfl ?_
          refine ev_W.br rfl rfl (fun g2 => ?_) (fun g2 => ?_)
          · have q2 : p.2.2.2.2.1 = 2 := by
              rcases hq with q | q | q
              · rw [q] at g1; exact absurd (by decide) g1
              · exact absurd q g2
              · exact q
            rw [if_neg g2, if_pos q2] at k
            refine ev_W.fn rfl rfl ?_
            refine ev_W.fn rfl rfl ?_
            refine ev_W.g13 R rfl ?_
            refine ev_W.fn rfl rfl ?_
            refine ev_W.clR rfl rfl rfl rfl rfl R.ob ?_
            rw [e2]
            refine sp_Z_send R (l := 2 * c) (by omega) (by omega) (by decide) (fun t1 u1 R1 E1 => ?_)
            refine ev_W.fn rfl rfl ?_
            refine ev_W.fn rfl rfl ?_
            refine ev_W.ret rfl rfl ?_
            exact k _ _ R1 (rf_E.tr E' (E1))
          · rw [if_pos (Decidable.not_not.mp g2)] at k
            refine ev_W.fn rfl rfl ?_
            refine ev_W.fn rfl rfl ?_
            refine ev_W.fn rfl rfl ?_
            refine ev_W.g13 R rfl ?_
            refine ev_W.fn rfl rfl ?_
            refine ev_W.clR rfl rfl rfl rfl rfl R.ob ?_
            rw [e2]
            refine sp_Z_send R (l := 2 * c) (by omega) (by omega) (by decide) (fun t2 u2 R2 E2 => ?_)
            refine ev_W.fn rfl rfl ?_
            refine ev_W.fn rfl rfl ?_
            refine ev_W.ret rfl rfl ?_
            exact k _ _ R2 (rf_E.tr E' (E2))
      -- the holding
      have hld : ∀ (s' : hb_S) (t' : rf_S) (h' : ev_H), zR z m0 s' p t' h' → rf_E m0 h h' → s' = M_crp0 s c p.2.1 p.2.2.1 p.2.2.2.2.1 → ev_W (mk_Z_clientGets z) (56, [some (.ref m0), some (.int (nI c)), some (.int (9 * nI c + p.2.1))], [], h') Q := by
        intro s' t' h' R E' e
        obtain ⟨a1, a4⟩ := att_put s c p.2.1 p.2.2.1 p.2.2.2.2.1
        rw [← e] at a4
        rw [← e] at k
        have hu2 : (sN s' (2 * c)).length ≤ 20 := by
          have : sN s' = sN s := by
            rw [e]; unfold M_crp0 M_put
            split
            · split <;> rfl
            · rfl
          rw [this]; omega
        have hk4' : ∃ k, k < 512 ∧ sI s' 4 c = nI k := ⟨k4, hk4l, by rw [a4]; exact ek4⟩
        refine ev_W.fn rfl rfl ?_
        refine ev_W.obj rfl R.ob rfl ?_
        refine ev_W.fn rfl rfl ?_
        refine ev_W.fn rfl rfl ?_
        refine ev_W.obj rfl R.ob rfl ?_
        refine ev_W.fn rfl rfl ?_
        refine ev_W.g30 R hc (show id < 9 by omega) ixh rfl ?_
        refine ev_W.br rfl rfl (fun g1 => ?_) (fun g1 => ?_)
        · have g1 := zb_1.mp g1
          by_cases q2 : p.2.2.2.2.1 = 2
          · refine ev_W.fn rfl rfl ?_
            refine ev_W.fn rfl rfl ?_
            refine ev_W.p30a R hc (show id < 9 by omega) hk4' ixh rfl (fun t2 u2 R2 E2 => ?_)
            refine snd _ _ _ R2 (rf_E.tr E' E2) hu2 (fun t3 h3 R3 E3 => k t3 h3 ?_ E3)
            unfold M_crp1
            rw [if_neg (by rw [q2]; decide), if_pos q2, eid]
            rw [if_neg (by rw [q2]; decide), if_pos q2, eid] at R3
            exact R3
          refine ev_W.fn rfl rfl ?_
          refine ev_W.fn rfl rfl ?_
          refine ev_W.p30e R hc (show id < 9 by omega) (by rw [g1]; rfl) ixh rfl (fun t2 u2 R2 E2 => ?_)
          refine snd _ _ _ R2 (rf_E.tr E' E2) hu2 (fun t3 h3 R3 E3 => k t3 h3 ?_ E3)
          unfold M_crp1
          rw [if_neg q2] at R3 ⊢
          exact R3
          done
        · refine ev_W.fn rfl rfl ?_
          refine ev_W.g15 R rfl ?_
          refine ev_W.fn rfl rfl ?_
          refine ev_W.br rfl rfl (fun g2 => ?_) (fun g2 => ?_)
          · have g1 := zb_n0.mp (Decidable.not_not.mp g1)
            refine ev_W.fn rfl rfl ?_
            refine ev_W.p30e R hc (show id < 9 by omega) (by rw [g1]; rfl) ixh rfl (fun t1 u1 R1 E1 => ?_)
            refine snd _ _ _ R1 (rf_E.tr E' (E1)) hu2 (fun t3 h3 R3 E3 => k t3 h3 ?_ E3)
            unfold M_crp1
            rw [if_neg g2] at R3 ⊢
            exact R3
          · have g2 := Decidable.not_not.mp g2
            refine ev_W.fn rfl rfl ?_
            refine ev_W.fn rfl rfl ?_
            refine ev_W.p30a R hc (show id < 9 by omega) hk4' ixh rfl (fun t2 u2 R2 E2 => ?_)
            refine snd _ _ _ R2 (rf_E.tr E' (E2)) hu2 (fun t3 h3 R3 E3 => k t3 h3 ?_ E3)
            unfold M_crp1
            rw [if_neg (by rw [g2]; decide), if_pos g2, eid]
            rw [if_neg (by rw [g2]; decide), if_pos g2, eid] at R3
            exact R3
      refine ev_W.fn rfl rfl ?_
      refine ev_W.fn rfl rfl ?_
      refine ev_W.fn rfl rfl ?_
      refine ev_W.fn rfl rfl ?_
      refine ev_W.g13 R rfl ?_
      refine ev_W.fn rfl rfl ?_
      refine ev_W.fn rfl rfl ?_
      refine ev_W.fn rfl rfl ?_
      refine ev_W.g15 R rfl ?_
      refine ev_W.fn rfl rfl ?_
      refine ev_W.br rfl rfl (fun h3 => ?_) (fun h3 => ?_)
      · refine ev_W.fn rfl rfl ?_
        refine ev_W.fn rfl rfl ?_
        refine ev_W.clR rfl rfl rfl rfl rfl R.ob ?_
        refine sp_Z_inboxed R hc en2 (by omega) (fun t5 u5 R5 E5 => ?_)
        refine hld _ _ _ R5 E5 ?_
        unfold M_crp0; rw [if_pos (Or.inl h3)]
      · refine ev_W.fn rfl rfl ?_
        refine ev_W.obj rfl R.ob rfl ?_
        refine ev_W.fn rfl rfl ?_
        refine ev_W.g30 R hc (show id < 9 by omega) ixh rfl ?_
        refine ev_W.br rfl rfl (fun h4 => ?_) (fun h4 => ?_)
        · refine hld _ _ _ R rf_E.rf ?_
          unfold M_crp0; rw [if_neg (fun q => q.elim h3 (fun q => by rw [eid] at q; rw [zb_1.mp h4] at q; cases q))]
        · refine ev_W.fn rfl rfl ?_
          refine ev_W.fn rfl rfl ?_
          refine ev_W.clR rfl rfl rfl rfl rfl R.ob ?_
          refine sp_Z_inboxed R hc en2 (by omega) (fun t6 u6 R6 E6 => ?_)
          refine hld _ _ _ R6 E6 ?_
          unfold M_crp0; rw [if_pos (Or.inr (by rw [eid]; exact zb_n0.mp (Decidable.not_not.mp h4)))]
  · have h1 := Decidable.not_not.mp h1
    rw [if_pos h1] at k
    refine ev_W.fn rfl rfl ?_
    refine ev_W.fn rfl rfl ?_
    refine ev_W.clR rfl rfl rfl rfl rfl R.ob ?_
    refine sp_Z_greeted R hc hS (by omega) hk4 (fun t7 u7 R7 E7 => ?_)
    refine ev_W.fn rfl rfl ?_
    refine ev_W.ret rfl rfl ?_
    exact k _ _ R7 E7
end ZI
