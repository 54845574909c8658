/-! The reference pumps a session (laid by wip/whole/p99e.py). -/
def idl (ps : List hb_Pa) : List Int32 := ps.map (fun x => x.2.2)
theorem idl_take {ps : List hb_Pa} {i : Nat} {x : hb_Pa} (hi : ps[i]? = some x) : idl (ps.take (i + 1)) = idl (ps.take i) ++ [x.2.2] := by
  unfold idl; rw [List.take_add_one, hi, List.map_append]; rfl
theorem fit_aw {ps : List hb_Pa} (h : ∀ x, x ∈ ps → oA x) (hl : ps.length ≤ 2) : fit_ 6 (idl ps) 1 = nI (pa_id ps) := fit_id (f := ps) (fun x hx => (h x hx).i) (fun x hx _ => hx) (fun x hx => ⟨hx, (h x hx).2.2.n0⟩) hl (Or.inr rfl)
section ZP
variable {z : Nat × Nat} {m0 : Nat} {s : hb_S} {p : hb_Pk} {t : rf_S} {h : ev_H} {Q : ev_O → Prop} {c l : Nat}
theorem sp_zps_in (R : zR z m0 s p t h) (hc : c < 3) (h3 : (sP s (3 + c)).length ≤ 3) {v : Int32} {rd : Nat} (k : ∀ y : Option Value, ev_W (mk_Z_pumpSession z) (87, [some (.ref m0), some (.int (nI c)), some (.int (fis (idl (sP s (3 + c))) v)), some (.int (nI rd)), y], [], h) Q) : ∀ (m i : Nat), i + m = (sP s (3 + c)).length → ev_W (mk_Z_pumpSession z) (46, [some (.ref m0), some (.int (nI c)), some (.int (fis (idl ((sP s (3 + c)).take i)) v)), some (.int (nI rd)), some (.int (nI i))], [], h) Q := by
  intro m
  induction m with
  | zero =>
    intro i hi
    refine ev_W.fn rfl rfl ?_
    refine ev_W.fn rfl rfl ?_
    refine ev_W.obj rfl R.ob rfl ?_
    refine ev_W.fn rfl rfl ?_
    refine ev_W.g47 R hc rfl rfl ?_
    refine ev_W.brT rfl rfl (nI_le (by omega) (by omega)) ?_
    rw [List.take_of_length_le (by omega)]
    exact k _
  | succ m ih =>
    intro i hi
    obtain ⟨x, hx⟩ : ∃ x, (sP s (3 + c))[i]? = some x := ⟨_, List.getElem?_eq_getElem (by omega)⟩
    have e := idl_take hx
    have nx := ih (i + 1) (by omega)
    rw [← nI_1, e, fis_app] at nx
    refine ev_W.fn rfl rfl ?_
    refine ev_W.fn rfl rfl ?_
    refine ev_W.obj rfl R.ob rfl ?_
    refine ev_W.fn rfl rfl ?_
    refine ev_W.g47 R hc rfl rfl ?_
    refine ev_W.brF rfl rfl (nI_ge (by omega) (by omega)) ?_
    refine ev_W.fn rfl rfl ?_
    refine ev_W.obj rfl R.ob rfl ?_
    refine ev_W.fn rfl rfl ?_
    refine ev_W.fn rfl rfl ?_
    refine ev_W.fn rfl rfl ?_
    refine ev_W.fn rfl rfl ?_
    refine ev_W.fn rfl rfl ?_
    refine ev_W.g54 R hc hx (zma 8 c i) rfl ?_
    refine ev_W.fn rfl rfl ?_
    refine ev_W.br rfl rfl (fun h2 => ?_) (fun h2 => ?_)
    · refine ev_W.fn rfl rfl ?_
      refine ev_W.fn rfl rfl ?_
      refine ev_W.fn rfl rfl ?_
      refine ev_W.fn rfl rfl ?_
      rw [if_neg h2] at nx
      exact nx
    · refine ev_W.fn rfl rfl ?_
      refine ev_W.fn rfl rfl ?_
      refine ev_W.fn rfl rfl ?_
      refine ev_W.fn rfl rfl ?_
      refine ev_W.fn rfl rfl ?_
      refine ev_W.fn rfl rfl ?_
      refine ev_W.fn rfl rfl ?_
      rw [if_pos (Decidable.not_not.mp h2)] at nx
      exact nx
theorem sp_zps_out (R : zR z m0 s p t h) (hc : c < 3) (h3 : (sP s (3 + c)).length ≤ 3) : ∀ (m rd : Nat) (v : Int32) (y : Option Value), rd + m = 6 → (∀ (y3 y4 : Option Value), ev_W (mk_Z_pumpSession z) (93, [some (.ref m0), some (.int (nI c)), some (.int (fit_ m (idl (sP s (3 + c))) v)), y3, y4], [], h) Q) → ev_W (mk_Z_pumpSession z) (37, [some (.ref m0), some (.int (nI c)), some (.int v), some (.int (nI rd)), y], [], h) Q := by
  intro m
  induction m with
  | zero =>
    intro rd v y hr k
    refine ev_W.fn rfl rfl ?_
    refine ev_W.fn rfl rfl ?_
    refine ev_W.brT rfl rfl (nI_le (a := 6) (by omega) (by omega)) ?_
    exact k _ _
  | succ m ih =>
    intro rd v y hr k
    refine ev_W.fn rfl rfl ?_
    refine ev_W.fn rfl rfl ?_
    refine ev_W.brF rfl rfl (nI_ge (b := 6) (by omega) (by omega)) ?_
    refine ev_W.fn rfl rfl ?_
    refine ev_W.fn rfl rfl ?_
    refine sp_zps_in R hc h3 (v := v) (fun y => ?_) _ 0 (Nat.zero_add _)
    refine ev_W.fn rfl rfl ?_
    refine ev_W.fn rfl rfl ?_
    have nx := ih (rd + 1) (fis (idl (sP s (3 + c))) v) y (by omega) k
    rw [← nI_1] at nx
    exact nx
theorem sp_zps_loop {D Lu N : Nat} {x y : List hb_Pk} (hc : c < 3) (hD : D ≤ 20) : ∀ (n : Nat) (s : hb_S) (t : rf_S) (h : ev_H) (y2 y3 y4 : Option Value), zR z m0 s p t h → CI D Lu N x y s c → (sM s c).length = n → (∀ t' h', zR z m0 (M_pm n s c (M_win s c)) p t' h' → rf_E m0 h h' → Q (none, h')) → ev_W (mk_Z_pumpSession z) (0, [some (.ref m0), some (.int (nI c)), y2, y3, y4], [], h) Q := by
  intro n
  induction n with
  | zero =>
    intro s t h y2 y3 y4 R H hn k
    have h6 := H.2.2.2.2.2.1
    have h3 := h6.2.2.2.2
    refine ev_W.fn rfl rfl ?_
    refine ev_W.obj rfl R.ob rfl ?_
    refine ev_W.fn rfl rfl ?_
    refine ev_W.g36 R hc rfl rfl ?_
    refine ev_W.br rfl rfl (fun h1 => ?_) (fun h1 => ?_)
    · refine ev_W.ret rfl rfl ?_
      exact k _ _ R rf_E.rf
    · refine ev_W.fn rfl rfl ?_
      refine ev_W.obj rfl R.ob rfl ?_
      refine ev_W.fn rfl rfl ?_
      refine ev_W.g47 R hc rfl rfl ?_
      refine ev_W.fn rfl rfl ?_
      refine ev_W.obj rfl R.ob rfl ?_
      refine ev_W.fn rfl rfl ?_
      refine ev_W.g37 R hc rfl rfl ?_
      refine ev_W.br rfl rfl (fun h2 => ?_) (fun h2 => ?_)
      · refine ev_W.ret rfl rfl ?_
        exact k _ _ R rf_E.rf
      · refine ev_W.fn rfl rfl ?_
        refine ev_W.obj rfl R.ob rfl ?_
        refine ev_W.fn rfl rfl ?_
        refine ev_W.g48 R hc rfl rfl ?_
        refine ev_W.brT rfl rfl (by rw [hn]; decide) ?_
        refine ev_W.ret rfl rfl ?_
        exact k _ _ R rf_E.rf
  | succ n ih =>
    intro s t h y2 y3 y4 R H hn k
    have h6 := H.2.2.2.2.2.1
    have h3 := h6.2.2.2.2
    have hA := H.2.2.2.2.1.1
    have hs6 := h6.2.1
    have hdn := h6.2.2.1
    rw [M_pm] at k
    refine ev_W.fn rfl rfl ?_
    refine ev_W.obj rfl R.ob rfl ?_
    refine ev_W.fn rfl rfl ?_
    refine ev_W.g36 R hc rfl rfl ?_
    refine ev_W.br rfl rfl (fun h1 => ?_) (fun h1 => ?_)
    · refine ev_W.ret rfl rfl ?_
      rw [if_pos (by unfold M_win; rw [if_pos h1]; exact nI_pos' (by omega))] at k
      exact k _ _ R rf_E.rf
    · refine ev_W.fn rfl rfl ?_
      refine ev_W.obj rfl R.ob rfl ?_
      refine ev_W.fn rfl rfl ?_
      refine ev_W.g47 R hc rfl rfl ?_
      refine ev_W.fn rfl rfl ?_
      refine ev_W.obj rfl R.ob rfl ?_
      refine ev_W.fn rfl rfl ?_
      refine ev_W.g37 R hc rfl rfl ?_
      refine ev_W.br rfl rfl (fun h2 => ?_) (fun h2 => ?_)
      · refine ev_W.ret rfl rfl ?_
        rw [if_pos (by unfold M_win; rw [if_neg h1]; exact h2)] at k
        exact k _ _ R rf_E.rf
      · refine ev_W.fn rfl rfl ?_
        refine ev_W.obj rfl R.ob rfl ?_
        refine ev_W.fn rfl rfl ?_
        refine ev_W.g48 R hc rfl rfl ?_
        refine ev_W.brF rfl rfl (by rw [hn]; exact nI_ge (a := 0) (by omega) (by omega)) ?_
        rw [if_neg (by unfold M_win; rw [if_neg h1]; exact h2)] at k
        have hl2 : (sP s (3 + c)).length ≤ 2 := by
          apply Classical.byContradiction
          intro hq
          have e : (sP s (3 + c)).length = 3 := by omega
          rw [e] at h2
          exact h2 h6.2.2.2.1
        obtain ⟨m, q, hm⟩ : ∃ m q, sM s c = m :: q := by
          cases e : sM s c with
          | nil => rw [e] at hn; simp at hn
          | cons m q => exact ⟨m, q, rfl⟩
        rw [hm] at k
        have k : ∀ t' h', zR z m0 (M_pm n (M_st s c m q) c (M_win s c)) p t' h' → rf_E m0 h h' → Q (none, h') := k
        have P := R.1
        obtain ⟨hn47, hn48, hu, hmr⟩ := R.2.1.u c hc
        refine ev_W.fn rfl rfl ?_
        refine ev_W.fn rfl rfl ?_
        refine ev_W.fn rfl rfl ?_
        refine ev_W.fn rfl rfl ?_
        refine sp_zps_out R hc h3 6 0 1 _ rfl (fun y3 y4 => ?_)
        rw [fit_aw hA hl2]
        have ix : 8 * nI c + t.1 47 c = nI (8 * c + (sP s (3 + c)).length) := by rw [hn47]; exact zma 8 c _
        refine ev_W.fn rfl rfl ?_
        refine ev_W.fn rfl rfl ?_
        refine ev_W.fn rfl rfl ?_
        refine ev_W.fn rfl rfl ?_
        refine ev_W.obj rfl P.2.2.2.1 rfl ?_
        refine ev_W.fn rfl rfl ?_
        refine ev_W.ri 47 P rfl rfl hc rfl ?_
        refine ev_W.fn rfl rfl ?_
        refine ev_W.fn rfl rfl ?_
        refine ev_W.fn rfl rfl ?_
        refine ev_W.obj rfl P.2.2.2.1 rfl ?_
        refine ev_W.fn rfl rfl ?_
        refine ev_W.fn rfl rfl ?_
        refine ev_W.si 54 P rfl ix (show 8 * c + (sP s (3 + c)).length < 24 by omega) rfl (fun u1 R1 E1 => ?_)
        refine ev_W.fn rfl rfl ?_
        refine ev_W.obj rfl R1.2.2.2.1 rfl ?_
        refine ev_W.fn rfl rfl ?_
        refine ev_W.fn rfl rfl ?_
        refine ev_W.si 53 R1 rfl ix (show 8 * c + (sP s (3 + c)).length < 24 by omega) rfl (fun u2 R2 E2 => ?_)
        refine ev_W.fn rfl rfl ?_
        refine ev_W.obj rfl R2.2.2.2.1 rfl ?_
        refine ev_W.fn rfl rfl ?_
        refine ev_W.fn rfl rfl ?_
        refine ev_W.ri 47 R2 rfl rfl hc rfl ?_
        refine ev_W.fn rfl rfl ?_
        refine ev_W.fn rfl rfl ?_
        refine ev_W.si 47 R2 rfl rfl hc rfl (fun u3 R3 E3 => ?_)
        refine ev_W.fn rfl rfl ?_
        refine ev_W.obj rfl R3.2.2.2.1 rfl ?_
        refine ev_W.fn rfl rfl ?_
        refine ev_W.fn rfl rfl ?_
        refine ev_W.ri 48 R3 rfl rfl hc rfl ?_
        refine ev_W.fn rfl rfl ?_
        refine ev_W.fn rfl rfl ?_
        refine ev_W.si 48 R3 rfl rfl hc rfl (fun u4 R4 E4 => ?_)
        have W : ∀ f, 49 ≤ f → f < 55 → WU c f (8 * c + (sP s (3 + c)).length) := fun f a b => Or.inr ⟨a, b, by omega, by omega⟩
        have R9 := R.here hc (us := sP s (3 + c) ++ [(m, 1, nI (pa_id (sP s (3 + c))))]) (ms := q) R4 ((((ag.rf.wI _ (W 54 (by decide) (by decide))).wI _ (W 53 (by decide) (by decide))).wI _ (Or.inl ⟨Or.inl rfl, rfl⟩)).wI _ (Or.inl ⟨Or.inr rfl, rfl⟩)) rfl (by rw [hm] at hs6; simp at hs6 ⊢; omega) ⟨?_, ?_, fun i x hx => ?_, fun i x hx => ?_⟩
        · have hx9 : (sP (tP (tM s c q) (3 + c) (sP s (3 + c) ++ [(m, 1, nI (pa_id (sP s (3 + c))))])) (3 + c))[(sP s (3 + c)).length]? = some (m, 1, nI (pa_id (sP s (3 + c)))) := by rw [sP_tP]; simp
          refine ev_W.fn rfl rfl ?_
          refine ev_W.fn rfl rfl ?_
          refine ev_W.fn rfl rfl ?_
          refine ev_W.fn rfl rfl ?_
          refine ev_W.clR rfl rfl rfl rfl rfl R9.ob ?_
          refine sp_Z_sendHere (a := false) R9 hc hx9 ix (by show (sN s (2 * c + 1)).length ≤ 30; omega) (fun t' h' R' E' => ?_)
          refine ev_W.fn rfl rfl ?_
          have eS : M_st s c m q = tN (tP (tM s c q) (3 + c) (sP s (3 + c) ++ [(m, 1, nI (pa_id (sP s (3 + c))))])) (2 * c + 1) (sN s (2 * c + 1) ++ [M_pkt m (nI (pa_id (sP s (3 + c)))) false]) := by
            unfold M_st M_send
            exact if_neg h1
          have R2 : zR z m0 (M_st s c m q) p t' h' := by rw [eS]; exact R'
          have eI := (M_st_ok s c m q).1
          refine ih (M_st s c m q) t' h' _ _ _ R2 (CI_st hc hm hl2 H) (by rw [(M_st_ok s c m q).2.2.2.2.2.2.2.1]; rw [hm] at hn; simpa using hn) (fun t2 g2 R3 E30 => k t2 g2 ?_ (rf_E.tr ((E1.tr (E2.tr (E3.tr E4)))) (rf_E.tr E' E30)))
          have eW : M_win (M_st s c m q) c = M_win s c := by unfold M_win; rw [eI]
          rw [eW] at R3
          exact R3
        · simp only [uI_1, uI_2]
          simp
          rw [hn47, nI_1]
        · simp only [uI_1, uI_2]
          simp
          rw [hn48, hm]
          exact nI_p1 (by simp)
        · by_cases e : i < (sP s (3 + c)).length
          · rw [List.getElem?_append_left e] at hx
            obtain ⟨⟨a1, a2, a3, a4⟩, a5, a6⟩ := hu i x hx
            have ne : ¬ i = (sP s (3 + c)).length := by omega
            refine ⟨⟨?_, ?_, ?_, ?_⟩, ?_, ?_⟩ <;> simp only [uI_1, uI_2] <;> first | assumption | (simp [ne]; done) | (simp [ne]; assumption)
          · rw [List.getElem?_append_right (by omega)] at hx
            have h0 : i - (sP s (3 + c)).length = 0 := by
              have := (List.getElem?_eq_some_iff.mp hx).1
              simp at this; omega
            rw [h0] at hx
            have hx : (m, 1, nI (pa_id (sP s (3 + c)))) = x := by simpa using hx
            obtain ⟨a1, a2, a3, a4⟩ := hmr 0 m (by rw [hm]; rfl)
            rw [← hx, show i = (sP s (3 + c)).length by omega]
            refine ⟨⟨?_, ?_, ?_, ?_⟩, ?_, ?_⟩ <;> simp only [uI_1, uI_2] <;> first | assumption | (simp; done) | (simp; assumption)
        · have hl := (List.getElem?_eq_some_iff.mp hx).1
          obtain ⟨a1, a2, a3, a4⟩ := hmr (i + 1) x (by rw [hm]; exact hx)
          have e : 8 * c + (sP s (3 + c) ++ [(m, (1 : Int32), nI (pa_id (sP s (3 + c))))]).length + i = 8 * c + (sP s (3 + c)).length + (i + 1) := by simp; omega
          have ne : ¬ 8 * c + (sP s (3 + c)).length + (i + 1) = 8 * c + (sP s (3 + c)).length := by omega
          rw [e]
          refine ⟨?_, ?_, ?_, ?_⟩ <;> simp only [uI_1, uI_2] <;> first | assumption | (simp; done) | (simp; assumption)
theorem sp_Z_pumpSession {D Lu N : Nat} {x y : List hb_Pk} (R : zR z m0 s p t h) (hc : c < 3) (hD : D ≤ 20) (H : CI D Lu N x y s c) (k : ∀ t' h', zR z m0 (M_pump s c) p t' h' → rf_E m0 h h' → Q (none, h')) : ev_M (mf_Z_pumpSession z) [.ref m0, .int (nI c)] h Q := by
  refine ev_M.go rfl rfl ?_
  exact sp_zps_loop hc hD _ s t h _ _ _ R H rfl k
end ZP
