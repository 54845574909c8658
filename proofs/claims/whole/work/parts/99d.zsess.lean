/-! The reference's sessions (laid by wip/whole/p99d.py). -/
theorem tM_tM (s : hb_S) (l : Nat) (x y : List hb_Ms) : tM (tM s l x) l y = tM s l y := by simp only [tM, bx_uu]
section ZD
variable {z : Nat × Nat} {m0 : Nat} {s : hb_S} {p : hb_Pk} {t : rf_S} {h : ev_H} {Q : ev_O → Prop} {c l : Nat} {C : ev_C} {pc nx : Nat} {L : ev_L} {r : List Value} {i : Int32}
theorem ev_W.p43z (R : zR z m0 s p t h) (hc : c < 3) (hi : i = nI c) (hf : ev_find C pc = some (ev_fn (ev_iast nx))) (k : ∀ t' h', zR z m0 (tB s c []) p t' h' → rf_E m0 h h' → ev_W C (nx, L, r, h') Q) : ev_W C (pc, L, .int 0 :: .int i :: .ref (m0 + (1 + rf_r 43)) :: r, h) Q := by
  refine ev_W.si 43 R.1 rfl hi hc hf (fun h' P E => k _ h' ⟨P, ?_, R.2.2.1, R.2.2.2.dB (by simp)⟩ E)
  refine R.2.1.subs R.2.2.2 (ag.rf.wI 0 (Or.inl ⟨rfl, rfl⟩)) rfl ⟨?_, fun n y hy => by simp at hy⟩
  rw [uI_1, if_pos ⟨rfl, rfl⟩]; rfl
theorem zR.here (R : zR z m0 s p t h) (hc : c < 3) {t' : rf_S} {h' : ev_H} {us : List hb_Pa} {ms : List hb_Ms} (P : rf_P z m0 t' h') (A : ag (WU c) t t') (e : t'.2.2 = t.2.2) (hl : us.length + ms.length ≤ 7) (hr : rhr t' c us ms) : zR z m0 (tP (tM s c ms) (3 + c) us) p t' h' := ⟨P, R.2.1.here hc R.2.2.2 A (by rw [e]) hr, by have g := R.2.2.1; unfold rg at g ⊢; rw [e]; exact g, R.2.2.2.dU hc hl⟩
end ZD
section ZJ
variable {z : Nat × Nat} {m0 : Nat} {s : hb_S} {p : hb_Pk} {t : rf_S} {h : ev_H} {Q : ev_O → Prop} {c l : Nat}
theorem sp_zes_h (hc : c < 3) {k0 : Nat} (hk0 : k0 < 512) : ∀ (n i : Nat) (t : rf_S) (h : ev_H), i + n = 9 → zR z m0 (tI s 13 c (hcl i (nI k0))) p t h → (∀ t' h', zR z m0 (tI s 13 c 0) p t' h' → rf_E m0 h h' → Q (none, h')) → ev_W (mk_Z_endSession z) (30, [some (.ref m0), some (.int (nI c)), some (.int (nI i))], [], h) Q := by
  intro n
  induction n with
  | zero =>
    intro i t h hi R k
    have : i = 9 := by omega
    subst this
    rw [hcl_9 hk0] at R
    refine ev_W.fn rfl rfl ?_
    refine ev_W.fn rfl rfl ?_
    refine ev_W.fn rfl rfl ?_
    refine ev_W.ret rfl rfl ?_
    exact k _ _ R rf_E.rf
  | succ n ih =>
    intro i t h hi R k
    obtain ⟨m, hm, em⟩ := hcl_lt hk0 i (by omega)
    have e4 : sI (tI s 13 c (hcl i (nI k0))) 13 c = hcl i (nI k0) := by simp [st_a]
    refine ev_W.fn rfl rfl ?_
    refine ev_W.fn rfl rfl ?_
    refine ev_W.brF rfl rfl (nI_ge (b := 9) (by omega) (by decide)) ?_
    refine ev_W.fn rfl rfl ?_
    refine ev_W.obj rfl R.ob rfl ?_
    refine ev_W.fn rfl rfl ?_
    refine ev_W.fn rfl rfl ?_
    refine ev_W.fn rfl rfl ?_
    refine ev_W.fn rfl rfl ?_
    refine ev_W.fn rfl rfl ?_
    refine ev_W.fn rfl rfl ?_
    refine ev_W.p55r R (j := i) hc (by omega) ⟨m, hm, by rw [e4]; exact em⟩ (zma 9 c i) rfl (fun t1 u1 R1 E1 => ?_)
    refine ev_W.fn rfl rfl ?_
    refine ev_W.fn rfl rfl ?_
    rw [e4, tI_tI] at R1
    have nx := ih (i + 1) _ _ (by omega) R1 (fun t' h' R' E' => k t' h' R' (rf_E.tr (E1) E'))
    rw [← nI_1] at nx
    exact nx
theorem sp_Z_endSession (R : zR z m0 s p t h) (hc : c < 3) (hk : ∃ k, k < 512 ∧ sI s 13 c = nI k) (k : ∀ t' h', zR z m0 (M_end s c) p t' h' → rf_E m0 h h' → Q (none, h')) : ev_M (mf_Z_endSession z) [.ref m0, .int (nI c)] h Q := by
  obtain ⟨k0, hk0, ek⟩ := hk
  refine ev_M.go rfl rfl ?_
  refine ev_W.fn rfl rfl ?_
  refine ev_W.obj rfl R.ob rfl ?_
  refine ev_W.fn rfl rfl ?_
  refine ev_W.fn rfl rfl ?_
  refine ev_W.p42 R hc (Or.inl rfl) rfl rfl (fun t1 u1 R1 E1 => ?_)
  refine ev_W.fn rfl rfl ?_
  refine ev_W.obj rfl R1.ob rfl ?_
  refine ev_W.fn rfl rfl ?_
  refine ev_W.fn rfl rfl ?_
  refine ev_W.p43z R1 hc rfl rfl (fun t2 u2 R2 E2 => ?_)
  refine ev_W.fn rfl rfl ?_
  refine ev_W.obj rfl R2.ob rfl ?_
  refine ev_W.fn rfl rfl ?_
  refine ev_W.fn rfl rfl ?_
  refine ev_W.si 47 R2.1 rfl rfl hc rfl (fun v1 P1 F1 => ?_)
  refine ev_W.fn rfl rfl ?_
  refine ev_W.obj rfl P1.2.2.2.1 rfl ?_
  refine ev_W.fn rfl rfl ?_
  refine ev_W.fn rfl rfl ?_
  refine ev_W.si 48 P1 rfl rfl hc rfl (fun v2 P2 F2 => ?_)
  have R9 := R2.here hc (us := []) (ms := []) P2 ((ag.rf.wI 0 (Or.inl ⟨Or.inl rfl, rfl⟩)).wI 0 (Or.inl ⟨Or.inr rfl, rfl⟩)) rfl (by simp) ⟨by rw [uI_1, if_neg (by omega), uI_1, if_pos ⟨rfl, rfl⟩]; rfl, by rw [uI_1, if_pos ⟨rfl, rfl⟩]; rfl, fun n x hx => by simp at hx, fun n x hx => by simp at hx⟩
  have R10 : zR z m0 (tI (tP (tM (tB (tI s 10 c 0) c []) c []) (3 + c) []) 13 c (hcl 0 (nI k0))) p (uI (uI t2 47 c 0) 48 c 0) v2 := by
    rw [show hcl 0 (nI k0) = nI k0 from rfl, tI_id (by show nI k0 = sI s 13 c; rw [ek])]
    exact R9
  refine ev_W.fn rfl rfl ?_
  refine ev_W.fn rfl rfl ?_
  exact sp_zes_h (s := tP (tM (tB (tI s 10 c 0) c []) c []) (3 + c) []) hc hk0 9 0 _ _ rfl R10 (fun t' h' R' E' => k t' h' R' (rf_E.tr ((E1.tr E2)) (rf_E.tr F1 (rf_E.tr F2 E'))))
theorem sp_Z_join {T tx : Int64} {v q : Int32} {b : Bool} (R : zR z m0 s p t h) (hc : c < 3) (h6 : (sP s (3 + c)).length + (sM s c).length ≤ 6) (htx : tx = tz_pl T) (k : ∀ t' h', zR z m0 (tM s c (sM s c ++ [(T, v, q, b)])) p t' h' → rf_E m0 h h' → Q (none, h')) : ev_M (mf_Z_join z) [.ref m0, .int (nI c), .long tx, .int v, .int q, .int (zb b)] h Q := by
  have P := R.1
  obtain ⟨hn, hq, hu, hm⟩ := R.2.1.u c hc
  have ix : 8 * nI c + t.1 47 c + t.1 48 c = nI (8 * c + (sP s (3 + c)).length + (sM s c).length) := by rw [hn, hq]; exact zmb 8 c _ _
  refine ev_M.go rfl rfl ?_
  refine ev_W.fn rfl rfl ?_
  refine ev_W.fn rfl rfl ?_
  refine ev_W.fn rfl rfl ?_
  refine ev_W.fn rfl rfl ?_
  refine ev_W.obj rfl P.2.2.2.1 rfl ?_
  refine ev_W.fn rfl rfl ?_
  refine ev_W.ri 47 P rfl rfl hc rfl ?_
  refine ev_W.fn rfl rfl ?_
  refine ev_W.fn rfl rfl ?_
  refine ev_W.obj rfl P.2.2.2.1 rfl ?_
  refine ev_W.fn rfl rfl ?_
  refine ev_W.ri 48 P rfl rfl hc rfl ?_
  refine ev_W.fn rfl rfl ?_
  refine ev_W.fn rfl rfl ?_
  refine ev_W.fn rfl rfl ?_
  refine ev_W.obj rfl P.2.2.2.1 rfl ?_
  refine ev_W.fn rfl rfl ?_
  refine ev_W.fn rfl rfl ?_
  refine ev_W.sl 49 P rfl ix (show 8 * c + (sP s (3 + c)).length + (sM s c).length < 24 by omega) rfl (fun u1 R1 E1 => ?_)
  refine ev_W.fn rfl rfl ?_
  refine ev_W.obj rfl R1.2.2.2.1 rfl ?_
  refine ev_W.fn rfl rfl ?_
  refine ev_W.fn rfl rfl ?_
  refine ev_W.si 50 R1 rfl ix (show 8 * c + (sP s (3 + c)).length + (sM s c).length < 24 by omega) rfl (fun u2 R2 E2 => ?_)
  refine ev_W.fn rfl rfl ?_
  refine ev_W.obj rfl R2.2.2.2.1 rfl ?_
  refine ev_W.fn rfl rfl ?_
  refine ev_W.fn rfl rfl ?_
  refine ev_W.si 51 R2 rfl ix (show 8 * c + (sP s (3 + c)).length + (sM s c).length < 24 by omega) rfl (fun u3 R3 E3 => ?_)
  refine ev_W.fn rfl rfl ?_
  refine ev_W.obj rfl R3.2.2.2.1 rfl ?_
  refine ev_W.fn rfl rfl ?_
  refine ev_W.fn rfl rfl ?_
  refine ev_W.sz 52 R3 rfl (zb_01 b) ix (show 8 * c + (sP s (3 + c)).length + (sM s c).length < 24 by omega) rfl (fun u4 R4 E4 => ?_)
  refine ev_W.fn rfl rfl ?_
  refine ev_W.obj rfl R4.2.2.2.1 rfl ?_
  refine ev_W.fn rfl rfl ?_
  refine ev_W.fn rfl rfl ?_
  refine ev_W.ri 48 R4 rfl rfl hc rfl ?_
  refine ev_W.fn rfl rfl ?_
  refine ev_W.fn rfl rfl ?_
  refine ev_W.si 48 R4 rfl rfl hc rfl (fun u5 R5 E5 => ?_)
  refine ev_W.ret rfl rfl ?_
  subst htx
  have W : ∀ f, 49 ≤ f → f < 55 → WU c f (8 * c + (sP s (3 + c)).length + (sM s c).length) := fun f a b => Or.inr ⟨a, b, by omega, by omega⟩
  have R9 := R.here hc (us := sP s (3 + c)) (ms := sM s c ++ [(T, v, q, b)]) R5 (((((ag.rf.wL _ (W 49 (by decide) (by decide))).wI _ (W 50 (by decide) (by decide))).wI _ (W 51 (by decide) (by decide))).wI _ (W 52 (by decide) (by decide))).wI _ (Or.inl ⟨Or.inr rfl, rfl⟩)) rfl (by simp; omega) ?_
  · rw [show tP (tM s c (sM s c ++ [(T, v, q, b)])) (3 + c) (sP s (3 + c)) = tM s c (sM s c ++ [(T, v, q, b)]) from tP_id rfl] at R9
    exact k _ _ R9 (E1.tr (E2.tr (E3.tr (E4.tr E5))))
  · refine ⟨?_, ?_, fun n x hx => ?_, fun n x hx => ?_⟩
    · simp only [uI_1, uL_0]
      simp
      exact hn
    · simp only [uI_1, uL_0]
      simp
      rw [hq, nI_1]
    · have hl := (List.getElem?_eq_some_iff.mp hx).1
      obtain ⟨⟨a1, a2, a3, a4⟩, a5, a6⟩ := hu n x hx
      have ne : ¬ 8 * c + n = 8 * c + (sP s (3 + c)).length + (sM s c).length := by omega
      refine ⟨⟨?_, ?_, ?_, ?_⟩, ?_, ?_⟩ <;> simp only [uI_1, uI_2, uL_0, uL_1] <;> simp [ne] <;> assumption
    · by_cases e : n < (sM s c).length
      · rw [List.getElem?_append_left e] at hx
        obtain ⟨a1, a2, a3, a4⟩ := hm n x hx
        have ne : ¬ 8 * c + (sP s (3 + c)).length + n = 8 * c + (sP s (3 + c)).length + (sM s c).length := by omega
        have ne2 : ¬ n = (sM s c).length := by omega
        refine ⟨?_, ?_, ?_, ?_⟩ <;> simp only [uI_1, uI_2, uL_0, uL_1] <;> simp [ne, ne2] <;> assumption
      · rw [List.getElem?_append_right (by omega)] at hx
        have h0 : n - (sM s c).length = 0 := by
          have := (List.getElem?_eq_some_iff.mp hx).1
          simp at this; omega
        rw [h0] at hx
        have hx : (T, v, q, b) = x := by simpa using hx
        rw [← hx, show n = (sM s c).length by omega]
        refine ⟨?_, ?_, ?_, ?_⟩ <;> simp only [uI_1, uI_2, uL_0, uL_1] <;> simp
def M_cpy (s : hb_S) (c : Nat) (T : Int64) (v q : Int32) (b : Bool) : hb_S := if 0 < q then tM s c (sM s c ++ [(T, v, q, b)]) else if (sN s (2 * c + 1)).length < 12 then M_send s c (3, 0, v, T, 0, false, b, 0, 0, 0) else s
theorem sp_Z_copy {T tx : Int64} {v q : Int32} {b : Bool} (R : zR z m0 s p t h) (hc : c < 3) (h6 : 0 < q → (sP s (3 + c)).length + (sM s c).length ≤ 6) (htx : tx = tz_pl T) (k : ∀ t' h', zR z m0 (M_cpy s c T v q b) p t' h' → rf_E m0 h h' → Q (none, h')) : ev_M (mf_Z_copy z) [.ref m0, .int (nI c), .long tx, .int v, .int q, .int (zb b)] h Q := by
  have e2 : (2 : Int32) * nI c + 1 = nI (2 * c + 1) := zma1 2 c
  have h31 := R.2.2.2.1 (2 * c + 1) (by omega)
  unfold M_cpy at k
  refine ev_M.go rfl rfl ?_
  refine ev_W.fn rfl rfl ?_
  refine ev_W.br rfl rfl (fun h1 => ?_) (fun h1 => ?_)
  · have h1 : ¬ 0 < q := Int32.not_lt.mpr h1
    rw [if_neg h1] at k
    refine ev_W.fn rfl rfl ?_
    refine ev_W.obj rfl R.ob rfl ?_
    refine ev_W.fn rfl rfl ?_
    refine ev_W.g36 R hc rfl rfl ?_
    refine ev_W.br rfl rfl (fun h2 => ?_) (fun h2 => ?_)
    · refine ev_W.ret rfl rfl ?_
      unfold M_send at k
      rw [if_pos h2, ite_self] at k
      exact k _ _ R rf_E.rf
    · refine ev_W.fn rfl rfl ?_
      refine ev_W.obj rfl R.ob rfl ?_
      refine ev_W.fn rfl rfl ?_
      refine ev_W.fn rfl rfl ?_
      refine ev_W.fn rfl rfl ?_
      refine ev_W.fn rfl rfl ?_
      refine ev_W.fn rfl rfl ?_
      refine ev_W.g0 R (by omega) e2 rfl ?_
      refine ev_W.fn rfl rfl ?_
      refine ev_W.br rfl rfl (fun h3 => ?_) (fun h3 => ?_)
      · refine ev_W.ret rfl rfl ?_
        rw [if_neg (fun w => nI_ge (b := 12) w (by decide) h3)] at k
        exact k _ _ R rf_E.rf
      · have h3 : (sN s (2 * c + 1)).length < 12 := Nat.lt_of_not_le (fun w => h3 (nI_le (a := 12) w (by omega)))
        unfold M_send at k
        rw [if_pos h3, if_neg h2] at k
        refine ev_W.fn rfl rfl ?_
        refine ev_W.fn rfl rfl ?_
        refine ev_W.fn rfl rfl ?_
        refine ev_W.fn rfl rfl ?_
        refine ev_W.fn rfl rfl ?_
        refine ev_W.fn rfl rfl ?_
        refine ev_W.fn rfl rfl ?_
        refine ev_W.fn rfl rfl ?_
        refine ev_W.fn rfl rfl ?_
        refine ev_W.fn rfl rfl ?_
        refine ev_W.clR rfl rfl rfl rfl rfl R.ob ?_
        rw [e2]
        refine sp_Z_sendPublish R (by omega) (by omega) htx (fun t1 u1 R1 E1 => ?_)
        refine ev_W.fn rfl rfl ?_
        refine ev_W.fn rfl rfl ?_
        refine ev_W.fn rfl rfl ?_
        refine ev_W.fn rfl rfl ?_
        refine ev_W.fn rfl rfl ?_
        refine ev_W.fn rfl rfl ?_
        refine ev_W.fn rfl rfl ?_
        refine ev_W.fn rfl rfl ?_
        refine ev_W.clR rfl rfl rfl rfl rfl R1.ob ?_
        rw [e2]
        refine sp_Z_marked R1 (a := false) (old := sN s (2 * c + 1)) (by omega) (sN_tN _ _ _) (by show ¬ (3 : Int32) = 1; decide) (fun t2 u2 R2 E2 => ?_)
        refine ev_W.ret rfl rfl ?_
        rw [tN_tN] at R2
        exact k _ _ R2 (E1.tr E2)
  · have h1 : 0 < q := Int32.not_le.mp h1
    rw [if_pos h1] at k
    refine ev_W.fn rfl rfl ?_
    refine ev_W.fn rfl rfl ?_
    refine ev_W.fn rfl rfl ?_
    refine ev_W.fn rfl rfl ?_
    refine ev_W.fn rfl rfl ?_
    refine ev_W.fn rfl rfl ?_
    refine ev_W.clR rfl rfl rfl rfl rfl R.ob ?_
    refine sp_Z_join R hc (h6 h1) htx (fun t3 u3 R3 E3 => ?_)
    refine ev_W.fn rfl rfl ?_
    refine ev_W.ret rfl rfl ?_
    exact k _ _ R3 E3
theorem sp_Z_sendHere {i : Int32} {j : Nat} {x : hb_Pa} {a : Bool} (R : zR z m0 s p t h) (hc : c < 3) (hx : (sP s (3 + c))[j]? = some x) (hi : i = nI (8 * c + j)) (h30 : (sN s (2 * c + 1)).length ≤ 30) (k : ∀ t' h', zR z m0 (tN s (2 * c + 1) (sN s (2 * c + 1) ++ [(3, x.2.2, x.1.2.1, x.1.1, x.1.2.2.1, a, x.1.2.2.2, 0, 0, 0)])) p t' h' → rf_E m0 h h' → Q (none, h')) : ev_M (mf_Z_sendHere z) [.ref m0, .int (nI c), .int i, .int (zb a)] h Q := by
  have e2 : (2 : Int32) * nI c + 1 = nI (2 * c + 1) := zma1 2 c
  refine ev_M.go rfl rfl ?_
  refine ev_W.fn rfl rfl ?_
  refine ev_W.fn rfl rfl ?_
  refine ev_W.fn rfl rfl ?_
  refine ev_W.fn rfl rfl ?_
  refine ev_W.fn rfl rfl ?_
  refine ev_W.fn rfl rfl ?_
  refine ev_W.fn rfl rfl ?_
  refine ev_W.obj rfl R.ob rfl ?_
  refine ev_W.fn rfl rfl ?_
  refine ev_W.g49 R hc hx hi rfl ?_
  refine ev_W.fn rfl rfl ?_
  refine ev_W.obj rfl R.ob rfl ?_
  refine ev_W.fn rfl rfl ?_
  refine ev_W.g50 R hc hx hi rfl ?_
  refine ev_W.fn rfl rfl ?_
  refine ev_W.obj rfl R.ob rfl ?_
  refine ev_W.fn rfl rfl ?_
  refine ev_W.g51 R hc hx hi rfl ?_
  refine ev_W.fn rfl rfl ?_
  refine ev_W.obj rfl R.ob rfl ?_
  refine ev_W.fn rfl rfl ?_
  refine ev_W.g54 R hc hx hi rfl ?_
  refine ev_W.clR rfl rfl rfl rfl rfl R.ob ?_
  rw [e2]
  refine sp_Z_sendPublish R (by omega) h30 rfl (fun t1 u1 R1 E1 => ?_)
  refine ev_W.fn rfl rfl ?_
  refine ev_W.fn rfl rfl ?_
  refine ev_W.fn rfl rfl ?_
  refine ev_W.fn rfl rfl ?_
  refine ev_W.fn rfl rfl ?_
  refine ev_W.fn rfl rfl ?_
  refine ev_W.fn rfl rfl ?_
  refine ev_W.fn rfl rfl ?_
  refine ev_W.obj rfl R1.ob rfl ?_
  refine ev_W.fn rfl rfl ?_
  refine ev_W.g52 R1 hc hx hi rfl ?_
  refine ev_W.clR rfl rfl rfl rfl rfl R1.ob ?_
  rw [e2]
  refine sp_Z_marked R1 (old := sN s (2 * c + 1)) (by omega) (sN_tN _ _ _) (by show ¬ (3 : Int32) = 1; decide) (fun t2 u2 R2 E2 => ?_)
  refine ev_W.ret rfl rfl ?_
  rw [tN_tN] at R2
  exact k _ _ R2 (E1.tr E2)
end ZJ
