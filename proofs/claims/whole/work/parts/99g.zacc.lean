/-! The reference accepts a message, closes a connection (laid by wip/whole/p99g.py). -/
theorem wnt_cq {x : hb_Sb} {m : hb_Ms} {own : Bool} : M_cq x m own = if wnt x m.1 own = true then (if m.2.2.1 < x.2.1 then m.2.2.1 else x.2.1) else -1 := by
  unfold M_cq wnt
  cases own <;> cases x.2.2 <;> cases tc_cov x.1 m.1 <;> simp
theorem ls_q {a b : Int32} (ha : q012 a) (hb : q012 b) : q012 (if a < b then a else b) := by split <;> assumption
theorem sp1_cpy {s : hb_S} {i : Nat} {x : hb_Sb} {m : hb_Ms} {own : Bool} (hx : q012 x.2.1) (hm : q012 m.2.2.1) : M_sp1 s i x m own = if wnt x m.1 own = true then M_cpy s i m.1 m.2.1 (if m.2.2.1 < x.2.1 then m.2.2.1 else x.2.1) false else s := by
  unfold M_sp1 M_cpy
  rw [wnt_cq]
  by_cases w : wnt x m.1 own = true
  · rw [if_pos w, if_pos w]
    rcases ls_q hm hx with e | e | e
    · rw [e]
      rw [if_neg (show ¬ (0 : Int32) < 0 by decide)]
      by_cases l : (sN s (2 * i + 1)).length < 12
      · rw [if_pos ⟨rfl, l⟩, if_pos l]; rfl
      · rw [if_neg (fun g => l g.2), if_neg l, if_neg (show ¬ (0 : Int32) < 0 by decide)]
    · rw [e, if_neg (fun g => absurd g.1 (by decide)), if_pos (by decide), if_pos (by decide)]
    · rw [e, if_neg (fun g => absurd g.1 (by decide)), if_pos (by decide), if_pos (by decide)]
  · rw [if_neg w, if_neg w, if_neg (fun g => absurd g.1 (by decide)), if_neg (by decide)]
theorem ck_take {l : List hb_Sb} {m : hb_Ms} {own : Bool} {j : Nat} {x : hb_Sb} (hx : l[j]? = some x) : M_ck (l.take (j + 1)) m own = M_ck (l.take j) m own + (if 0 < M_cq x m own then 1 else 0) := by
  rw [List.take_add_one, hx]; exact M_ck_app _ _ _ _
theorem ck_tk_le {l : List hb_Sb} {m : hb_Ms} {own : Bool} (j : Nat) : M_ck (l.take j) m own ≤ j := Nat.le_trans (M_ck_le _ _ _) (by simp; omega)
section ZK
variable {z : Nat × Nat} {m0 : Nat} {s : hb_S} {p : hb_Pk} {t : rf_S} {h : ev_H} {Q : ev_O → Prop} {c l : Nat} {T : Int64} {v q : Int32} {b : Bool}
theorem sp_zac_c {i A : Nat} (hi : i < 3) (hc : c < 3) (hT : tpc T) (hq : q012 q) (hB : ∀ x, x ∈ sB s i → oS x) (hl : sI s 10 i = 0 → sB s i = []) (hA : A ≤ 7) : ∀ (n j : Nat) (t : rf_S) (h : ev_H), j + n = 4 → zR z m0 s p t h → (∀ t' h' (y9 : Option Value), zR z m0 s p t' h' → rf_E m0 h h' → ev_W (mk_Z_accept z) (85, [some (.ref m0), some (.int (nI c)), some (.long (tz_pl T)), none, some (.int v), some (.int q), some (.int (zb b)), some (.int (nI i)), some (.int (nI (A + M_ck (sB s i) (T, v, q, b) (decide (i = c))))), y9], [], h') Q) → ev_W (mk_Z_accept z) (29, [some (.ref m0), some (.int (nI c)), some (.long (tz_pl T)), none, some (.int v), some (.int q), some (.int (zb b)), some (.int (nI i)), some (.int (nI (A + M_ck ((sB s i).take j) (T, v, q, b) (decide (i = c))))), some (.int (nI j))], [], h) Q := by
  intro n
  induction n with
  | zero =>
    intro j t h hj R k
    have h4 := R.2.2.2.2.2.1 i hi
    refine ev_W.fn rfl rfl ?_
    refine ev_W.fn rfl rfl ?_
    refine ev_W.brT rfl rfl (nI_le (a := 4) (by omega) (by omega)) ?_
    rw [List.take_of_length_le (by omega)]
    exact k _ _ _ R rf_E.rf
  | succ n ih =>
    intro j t h hj R k
    have h4 := R.2.2.2.2.2.1 i hi
    have hck := ck_tk_le (l := sB s i) (m := (T, v, q, b)) (own := decide (i = c)) j
    refine ev_W.fn rfl rfl ?_
    refine ev_W.fn rfl rfl ?_
    refine ev_W.brF rfl rfl (nI_ge (b := 4) (by omega) (by decide)) ?_
    refine ev_W.fn rfl rfl ?_
    refine ev_W.fn rfl rfl ?_
    refine ev_W.fn rfl rfl ?_
    refine ev_W.fn rfl rfl ?_
    refine ev_W.fn rfl rfl ?_
    refine ev_W.clR rfl rfl rfl rfl rfl R.ob ?_
    refine sp_Z_wants R hi hc (by omega) hB hl hT (fun t1 u1 R1 E1 => ?_)
    have nopx : ∀ (t2 : rf_S) (h2 : ev_H), zR z m0 s p t2 h2 → rf_E m0 h h2 → M_ck ((sB s i).take (j + 1)) (T, v, q, b) (decide (i = c)) = M_ck ((sB s i).take j) (T, v, q, b) (decide (i = c)) → ev_W (mk_Z_accept z) (75, [some (.ref m0), some (.int (nI c)), some (.long (tz_pl T)), none, some (.int v), some (.int q), some (.int (zb b)), some (.int (nI i)), some (.int (nI (A + M_ck ((sB s i).take j) (T, v, q, b) (decide (i = c))))), some (.int (nI j))], [], h2) Q := by
      intro t2 h2 R2 E2 e
      refine ev_W.fn rfl rfl ?_
      refine ev_W.fn rfl rfl ?_
      refine ev_W.fn rfl rfl ?_
      refine ev_W.fn rfl rfl ?_
      have nx := ih (j + 1) _ _ (by omega) R2 (fun t' h' y9 R' E' => k t' h' y9 R' (rf_E.tr E2 E'))
      rw [e, ← nI_1] at nx
      exact nx
    refine ev_W.br rfl rfl (fun h1 => ?_) (fun h1 => ?_)
    · refine nopx _ _ R1 E1 ?_
      have h1 := zb_n0.mp h1
      unfold wn at h1
      cases hx : (sB s i)[j]? with
      | none =>
        have := List.getElem?_eq_none_iff.mp hx
        rw [List.take_of_length_le (by omega), List.take_of_length_le (by omega)]
      | some x =>
        rw [hx] at h1
        have h1 : wnt x T (decide (i = c)) = false := h1
        have e9 : M_cq x (T, v, q, b) (decide (i = c)) = -1 := by rw [wnt_cq]; exact if_neg (by show ¬ wnt x T (decide (i = c)) = true; rw [h1]; decide)
        rw [ck_take hx, e9, if_neg (by decide)]; rfl
    · have h1 := zb_1.mp h1
      unfold wn at h1
      obtain ⟨x, hx⟩ : ∃ x, (sB s i)[j]? = some x := by
        cases hx : (sB s i)[j]? with
        | none => rw [hx] at h1; cases h1
        | some x => exact ⟨x, rfl⟩
      rw [hx] at h1
      have h1 : wnt x T (decide (i = c)) = true := h1
      have ecq : M_cq x (T, v, q, b) (decide (i = c)) = if q < x.2.1 then q else x.2.1 := by rw [wnt_cq, if_pos h1]
      refine ev_W.fn rfl rfl ?_
      refine ev_W.fn rfl rfl ?_
      refine ev_W.obj rfl R1.ob rfl ?_
      refine ev_W.fn rfl rfl ?_
      refine ev_W.fn rfl rfl ?_
      refine ev_W.fn rfl rfl ?_
      refine ev_W.fn rfl rfl ?_
      refine ev_W.fn rfl rfl ?_
      refine ev_W.g45 R1 hi hx (zma 4 i j) rfl ?_
      refine ev_W.cl rfl rfl rfl rfl rfl ?_
      refine sp_Z_lesser ?_
      refine ev_W.br rfl rfl (fun h2 => ?_) (fun h2 => ?_)
      · refine nopx _ _ R1 E1 ?_
        rw [ck_take hx, ecq, if_neg (Int32.not_lt.mpr h2)]; rfl
      · have e1 := ck_take (m := (T, v, q, b)) (own := decide (i = c)) hx
        rw [ecq, if_pos (Int32.not_le.mp h2)] at e1
        refine ev_W.fn rfl rfl ?_
        refine ev_W.fn rfl rfl ?_
        refine ev_W.fn rfl rfl ?_
        refine ev_W.fn rfl rfl ?_
        refine ev_W.fn rfl rfl ?_
        refine ev_W.fn rfl rfl ?_
        refine ev_W.fn rfl rfl ?_
        have nx := ih (j + 1) _ _ (by omega) R1 (fun t' h' y9 R' E' => k t' h' y9 R' (rf_E.tr (E1) E'))
        rw [e1, ← nI_1, ← Nat.add_assoc, ← nI_1] at nx
        exact nx
theorem sp_zac_1 (hc : c < 3) (hT : tpc T) (hq : q012 q) (hB : ∀ i, i < 3 → (∀ x, x ∈ sB s i → oS x) ∧ (sI s 10 i = 0 → sB s i = [])) : ∀ (n i : Nat) (t : rf_S) (h : ev_H) (y8 y9 : Option Value), i + n = 3 → zR z m0 s p t h → (M_rmF s c (T, v, q, b) n i = false → ∀ t' h', zR z m0 s p t' h' → rf_E m0 h h' → Q (some (.int 0), h')) → (M_rmF s c (T, v, q, b) n i = true → ∀ t' h' (y7 y8 y9 : Option Value), zR z m0 s p t' h' → rf_E m0 h h' → ev_W (mk_Z_accept z) (100, [some (.ref m0), some (.int (nI c)), some (.long (tz_pl T)), none, some (.int v), some (.int q), some (.int (zb b)), y7, y8, y9], [], h') Q) → ev_W (mk_Z_accept z) (3, [some (.ref m0), some (.int (nI c)), some (.long (tz_pl T)), none, some (.int v), some (.int q), some (.int (zb b)), some (.int (nI i)), y8, y9], [], h) Q := by
  intro n
  induction n with
  | zero =>
    intro i t h y8 y9 hi R k0 k1
    refine ev_W.fn rfl rfl ?_
    refine ev_W.fn rfl rfl ?_
    refine ev_W.brT rfl rfl (nI_le (a := 3) (by omega) (by omega)) ?_
    exact k1 rfl _ _ _ _ _ R rf_E.rf
  | succ n ih =>
    intro i t h y8 y9 hin R k0 k1
    have hi : i < 3 := by omega
    have h7 := R.2.2.2.2.2.2.1 i hi
    rw [M_rmF] at k0 k1
    have ea : nI (sP s (3 + i)).length + nI (sM s i).length = nI ((sP s (3 + i)).length + (sM s i).length + M_ck ((sB s i).take 0) (T, v, q, b) (decide (i = c))) := by rw [nI_add]; rfl
    refine ev_W.fn rfl rfl ?_
    refine ev_W.fn rfl rfl ?_
    refine ev_W.brF rfl rfl (nI_ge (b := 3) (by omega) (by decide)) ?_
    refine ev_W.fn rfl rfl ?_
    refine ev_W.obj rfl R.ob rfl ?_
    refine ev_W.fn rfl rfl ?_
    refine ev_W.g47 R hi rfl rfl ?_
    refine ev_W.fn rfl rfl ?_
    refine ev_W.obj rfl R.ob rfl ?_
    refine ev_W.fn rfl rfl ?_
    refine ev_W.g48 R hi rfl rfl ?_
    refine ev_W.fn rfl rfl ?_
    refine ev_W.fn rfl rfl ?_
    refine ev_W.fn rfl rfl ?_
    refine ev_W.fn rfl rfl ?_
    rw [ea]
    refine sp_zac_c hi hc hT hq (hB i hi).1 (hB i hi).2 h7 4 0 _ _ rfl R (fun t2 h2 y9 R2 E2 => ?_)
    have hck := M_ck_le (sB s i) (T, v, q, b) (decide (i = c))
    have h4 := R.2.2.2.2.2.1 i hi
    have em : M_rm s c (T, v, q, b) i = decide ((sM s i).length + (sP s (3 + i)).length + M_ck (sB s i) (T, v, q, b) (decide (i = c)) ≤ 6) := rfl
    refine ev_W.fn rfl rfl ?_
    refine ev_W.fn rfl rfl ?_
    refine ev_W.br rfl rfl (fun h1 => ?_) (fun h1 => ?_)
    · have h1 := (nI_leI (b := 6) (by omega) (by decide)).mp h1
      have g : M_rm s c (T, v, q, b) i = true := by rw [em]; exact decide_eq_true (by omega)
      rw [if_pos g] at k0 k1
      refine ev_W.fn rfl rfl ?_
      refine ev_W.fn rfl rfl ?_
      have nx := ih (i + 1) _ _ (some (.int (nI ((sP s (3 + i)).length + (sM s i).length + M_ck (sB s i) (T, v, q, b) (decide (i = c)))))) y9 (by omega) R2 (fun e t' h' R' E' => k0 e t' h' R' (rf_E.tr E2 E')) (fun e t' h' y7 y8 y9 R' E' => k1 e t' h' y7 y8 y9 R' (rf_E.tr E2 E'))
      rw [← nI_1] at nx
      exact nx
    · have g : ¬ M_rm s c (T, v, q, b) i = true := by
        rw [em]
        intro w
        have w := of_decide_eq_true w
        exact h1 (nI_le (b := 6) (by omega) (by decide))
      rw [if_neg g] at k0
      refine ev_W.fn rfl rfl ?_
      refine ev_W.zret rfl (Or.inl rfl) ?_
      exact k0 rfl _ _ R2 E2
theorem sp_zac_n {i : Nat} (hi : i < 3) (hc : c < 3) (hT : tpc T) (hB : ∀ x, x ∈ sB s i → oS x) (hl : sI s 10 i = 0 → sB s i = []) : ∀ (n j : Nat) (t : rf_S) (h : ev_H) (y9 : Option Value), j + n = 4 → (sB s i).length ≤ j → zR z m0 s p t h → (∀ t' h' (y8 : Option Value), zR z m0 s p t' h' → rf_E m0 h h' → ev_W (mk_Z_accept z) (164, [some (.ref m0), some (.int (nI c)), some (.long (tz_pl T)), none, some (.int v), some (.int q), some (.int (zb b)), some (.int (nI i)), y8, y9], [], h') Q) → ev_W (mk_Z_accept z) (112, [some (.ref m0), some (.int (nI c)), some (.long (tz_pl T)), none, some (.int v), some (.int q), some (.int (zb b)), some (.int (nI i)), some (.int (nI j)), y9], [], h) Q := by
  intro n
  induction n with
  | zero =>
    intro j t h y9 hj hjl R k
    refine ev_W.fn rfl rfl ?_
    refine ev_W.fn rfl rfl ?_
    refine ev_W.brT rfl rfl (nI_le (a := 4) (by omega) (by omega)) ?_
    exact k _ _ _ R rf_E.rf
  | succ n ih =>
    intro j t h y9 hj hjl R k
    refine ev_W.fn rfl rfl ?_
    refine ev_W.fn rfl rfl ?_
    refine ev_W.brF rfl rfl (nI_ge (b := 4) (by omega) (by decide)) ?_
    refine ev_W.fn rfl rfl ?_
    refine ev_W.fn rfl rfl ?_
    refine ev_W.fn rfl rfl ?_
    refine ev_W.fn rfl rfl ?_
    refine ev_W.fn rfl rfl ?_
    refine ev_W.clR rfl rfl rfl rfl rfl R.ob ?_
    refine sp_Z_wants R hi hc (by omega) hB hl hT (fun t1 u1 R1 E1 => ?_)
    refine ev_W.brT rfl rfl (by rw [show wn s i j c T = false by unfold wn; rw [List.getElem?_eq_none hjl]]; rfl) ?_
    refine ev_W.fn rfl rfl ?_
    refine ev_W.fn rfl rfl ?_
    have nx := ih (j + 1) _ _ y9 (by omega) (by omega) R1 (fun t' h' y8 R' E' => k t' h' y8 R' (rf_E.tr (E1) E'))
    rw [← nI_1] at nx
    exact nx
theorem sp_zac_s {i : Nat} (hi : i < 3) (hc : c < 3) (hT : tpc T) (hq : q012 q) : ∀ (B A : List hb_Sb) (s : hb_S) (t : rf_S) (h : ev_H) (y9 : Option Value), sB s i = A ++ B → (∀ x, x ∈ sB s i → oS x) → (sI s 10 i = 0 → sB s i = []) → (sM s i).length + (sP s (3 + i)).length + M_ck B (T, v, q, b) (decide (i = c)) ≤ 6 → zR z m0 s p t h → (∀ t' h' (y8 : Option Value), zR z m0 (M_spr B s i (T, v, q, b) (decide (i = c))) p t' h' → rf_E m0 h h' → ev_W (mk_Z_accept z) (164, [some (.ref m0), some (.int (nI c)), some (.long (tz_pl T)), none, some (.int v), some (.int q), some (.int (zb b)), some (.int (nI i)), y8, y9], [], h') Q) → ev_W (mk_Z_accept z) (112, [some (.ref m0), some (.int (nI c)), some (.long (tz_pl T)), none, some (.int v), some (.int q), some (.int (zb b)), some (.int (nI i)), some (.int (nI A.length)), y9], [], h) Q := by
  intro B
  induction B with
  | nil =>
    intro A s t h y9 hs hB hl hr R k
    have h4 := R.2.2.2.2.2.1 i hi
    rw [List.append_nil] at hs
    exact sp_zac_n hi hc hT hB hl (4 - A.length) A.length t h y9 (by rw [hs] at h4; omega) (by rw [hs]; exact Nat.le_refl _) R k
  | cons x B ih =>
    intro A s t h y9 hs hB hl hr R k
    have h4 := R.2.2.2.2.2.1 i hi
    have hL : (sB s i).length = A.length + 1 + B.length := by rw [hs]; simp; omega
    have hx : (sB s i)[A.length]? = some x := by rw [hs]; simp
    have hS := hB x (List.mem_of_getElem? hx)
    have ew : wn s i A.length c T = wnt x T (decide (i = c)) := by unfold wn; rw [hx]
    have hck : M_ck (x :: B) (T, v, q, b) (decide (i = c)) = (if 0 < M_cq x (T, v, q, b) (decide (i = c)) then 1 else 0) + M_ck B (T, v, q, b) (decide (i = c)) := by
      unfold M_ck
      rw [List.filter_cons]
      by_cases g : 0 < M_cq x (T, v, q, b) (decide (i = c))
      · simp [g]; omega
      · simp [g]
    rw [M_spr, sp1_cpy (m := (T, v, q, b)) hS.2 hq] at k
    have back : ∀ (s' : hb_S) (t' : rf_S) (h' : ev_H), zR z m0 s' p t' h' → rf_E m0 h h' → s' = M_sp1 s i x (T, v, q, b) (decide (i = c)) → ev_W (mk_Z_accept z) (158, [some (.ref m0), some (.int (nI c)), some (.long (tz_pl T)), none, some (.int v), some (.int q), some (.int (zb b)), some (.int (nI i)), some (.int (nI A.length)), y9], [], h') Q := by
      intro s' t' h' R' E' e
      obtain ⟨a1, a2, a3, a4, a5, a6, a7, a8, a9⟩ := M_sp1_ok s i x (T, v, q, b) (decide (i = c))
      rw [← e] at a1 a4 a5 a8
      refine ev_W.fn rfl rfl ?_
      refine ev_W.fn rfl rfl ?_
      have nx := ih (A ++ [x]) s' t' h' y9 (by rw [a5, hs]; simp) (by rw [a5]; exact hB) (by rw [a1, a5]; exact hl) (by rw [a8, a4]; omega) R' (fun t2 h2 y8 R2 E2 => k t2 h2 y8 (by rw [← sp1_cpy (m := (T, v, q, b)) hS.2 hq, ← e]; exact R2) (rf_E.tr E' E2))
      rw [List.length_append] at nx
      have e3 : nI (A.length + [x].length) = nI A.length + 1 := (nI_1 _).symm
      rw [e3] at nx
      exact nx
    refine ev_W.fn rfl rfl ?_
    refine ev_W.fn rfl rfl ?_
    refine ev_W.brF rfl rfl (nI_ge (b := 4) (by omega) (by decide)) ?_
    refine ev_W.fn rfl rfl ?_
    refine ev_W.fn rfl rfl ?_
    refine ev_W.fn rfl rfl ?_
    refine ev_W.fn rfl rfl ?_
    refine ev_W.fn rfl rfl ?_
    refine ev_W.clR rfl rfl rfl rfl rfl R.ob ?_
    refine sp_Z_wants R hi hc (by omega) hB hl hT (fun t1 u1 R1 E1 => ?_)
    refine ev_W.br rfl rfl (fun h1 => ?_) (fun h1 => ?_)
    · rw [ew] at h1
      refine back _ _ _ R1 E1 ?_
      rw [sp1_cpy (m := (T, v, q, b)) hS.2 hq, if_neg (by rw [zb_n0.mp h1]; decide)]
    · rw [ew] at h1
      have h1 := zb_1.mp h1
      have ecq : M_cq x (T, v, q, b) (decide (i = c)) = if q < x.2.1 then q else x.2.1 := by rw [wnt_cq, if_pos h1]
      rw [hck, ecq] at hr
      refine ev_W.fn rfl rfl ?_
      refine ev_W.fn rfl rfl ?_
      refine ev_W.fn rfl rfl ?_
      refine ev_W.fn rfl rfl ?_
      refine ev_W.fn rfl rfl ?_
      refine ev_W.fn rfl rfl ?_
      refine ev_W.obj rfl R1.ob rfl ?_
      refine ev_W.fn rfl rfl ?_
      refine ev_W.fn rfl rfl ?_
      refine ev_W.fn rfl rfl ?_
      refine ev_W.fn rfl rfl ?_
      refine ev_W.fn rfl rfl ?_
      refine ev_W.g45 R1 hi hx (zma 4 i _) rfl ?_
      refine ev_W.cl rfl rfl rfl rfl rfl ?_
      refine sp_Z_lesser ?_
      refine ev_W.fn rfl rfl ?_
      refine ev_W.clR rfl rfl rfl rfl rfl R1.ob ?_
      refine sp_Z_copy R1 (b := false) hi (fun g => by rw [if_pos g] at hr; omega) rfl (fun t2 u2 R2 E2 => ?_)
      refine back _ _ _ R2 (E1.tr E2) ?_
      rw [sp1_cpy (m := (T, v, q, b)) hS.2 hq, if_pos h1]
theorem sp_zac_2 (hc : c < 3) (hT : tpc T) (hq : q012 q) : ∀ (n i : Nat) (s : hb_S) (t : rf_S) (h : ev_H) (y8 y9 : Option Value), i + n = 3 → (∀ j, i ≤ j → j < 3 → (∀ x, x ∈ sB s j → oS x) ∧ (sI s 10 j = 0 → sB s j = []) ∧ (sM s j).length + (sP s (3 + j)).length + M_ck (sB s j) (T, v, q, b) (decide (j = c)) ≤ 6) → zR z m0 s p t h → (∀ t' h' (y7 y8 y9 : Option Value), zR z m0 (M_spF c (T, v, q, b) n i s) p t' h' → rf_E m0 h h' → ev_W (mk_Z_accept z) (170, [some (.ref m0), some (.int (nI c)), some (.long (tz_pl T)), none, some (.int v), some (.int q), some (.int (zb b)), y7, y8, y9], [], h') Q) → ev_W (mk_Z_accept z) (103, [some (.ref m0), some (.int (nI c)), some (.long (tz_pl T)), none, some (.int v), some (.int q), some (.int (zb b)), some (.int (nI i)), y8, y9], [], h) Q := by
  intro n
  induction n with
  | zero =>
    intro i s t h y8 y9 hi hs R k
    refine ev_W.fn rfl rfl ?_
    refine ev_W.fn rfl rfl ?_
    refine ev_W.brT rfl rfl (nI_le (a := 3) (by omega) (by omega)) ?_
    exact k _ _ _ _ _ R rf_E.rf
  | succ n ih =>
    intro i s t h y8 y9 hin hs R k
    have hi : i < 3 := by omega
    obtain ⟨b1, b2, b3⟩ := hs i (Nat.le_refl _) hi
    rw [M_spF] at k
    refine ev_W.fn rfl rfl ?_
    refine ev_W.fn rfl rfl ?_
    refine ev_W.brF rfl rfl (nI_ge (b := 3) (by omega) (by decide)) ?_
    refine ev_W.fn rfl rfl ?_
    refine ev_W.fn rfl rfl ?_
    refine sp_zac_s hi hc hT hq (sB s i) [] s _ _ y9 rfl b1 b2 b3 R (fun t2 h2 y8 R2 E2 => ?_)
    have F := fr_spr (sB s i) s i (T, v, q, b) (decide (i = c))
    refine ev_W.fn rfl rfl ?_
    refine ev_W.fn rfl rfl ?_
    have nx := ih (i + 1) _ _ _ y8 y9 (by omega) (fun j h1 h3 => by
      obtain ⟨f1, _, _, _, f5, f6, f7⟩ := F
      rw [f6 j (by omega), f1 10 j (by omega), f7 j (by omega), f5 (3 + j) (by omega) (by omega)]
      exact hs j (by omega) h3) R2 (fun t' h' y7 y8 y9 R' E' => k t' h' y7 y8 y9 R' (rf_E.tr E2 E'))
    rw [← nI_1] at nx
    exact nx
theorem sp_zac_3 {D Lu : Nat → Nat} {N : Nat} {X Y : Nat → List hb_Pk} (hD : ∀ j, j < 3 → D j ≤ 20) : ∀ (n i : Nat) (s : hb_S) (t : rf_S) (h : ev_H) (y8 y9 : Option Value), i + n = 3 → AI D Lu N X Y s → zR z m0 s p t h → (∀ t' h', zR z m0 (M_puF n i s) p t' h' → rf_E m0 h h' → Q (some (.int 1), h')) → ev_W (mk_Z_accept z) (187, [some (.ref m0), some (.int (nI c)), some (.long (tz_pl T)), none, some (.int v), some (.int q), some (.int (zb b)), some (.int (nI i)), y8, y9], [], h) Q := by
  intro n
  induction n with
  | zero =>
    intro i s t h y8 y9 hi A R k
    refine ev_W.fn rfl rfl ?_
    refine ev_W.fn rfl rfl ?_
    refine ev_W.brT rfl rfl (nI_le (a := 3) (by omega) (by omega)) ?_
    refine ev_W.fn rfl rfl ?_
    refine ev_W.zret rfl (Or.inr rfl) ?_
    exact k _ _ R rf_E.rf
  | succ n ih =>
    intro i s t h y8 y9 hin A R k
    have hi : i < 3 := by omega
    rw [M_puF] at k
    refine ev_W.fn rfl rfl ?_
    refine ev_W.fn rfl rfl ?_
    refine ev_W.brF rfl rfl (nI_ge (b := 3) (by omega) (by decide)) ?_
    refine ev_W.fn rfl rfl ?_
    refine ev_W.fn rfl rfl ?_
    refine ev_W.clR rfl rfl rfl rfl rfl R.ob ?_
    refine sp_Z_pumpSession R hi (hD i hi) (A i hi) (fun t1 u1 R1 E1 => ?_)
    refine ev_W.fn rfl rfl ?_
    refine ev_W.fn rfl rfl ?_
    have nx := ih (i + 1) _ _ _ y8 y9 (by omega) (AI_pump hi A) R1 (fun t' h' R' E' => k t' h' R' (rf_E.tr (E1) E'))
    rw [← nI_1] at nx
    exact nx
theorem sp_Z_accept {D Lu : Nat → Nat} {N : Nat} {X Y : Nat → List hb_Pk} (R : zR z m0 s p t h) (hc : c < 3) (hT : tpc T) (hq : q012 q) (hD : ∀ j, j < 3 → 12 ≤ D j ∧ D j ≤ 20) (A : AI D Lu N X Y s) (hr : RI s) (k : ∀ t' h', zR z m0 ((M_acc s c (T, v, q, b)).1) p t' h' → rf_E m0 h h' → Q (some (.int (zb (M_acc s c (T, v, q, b)).2)), h')) : ev_M (mf_Z_accept z) [.ref m0, .int (nI c), .long (tz_pl T), .int v, .int q, .int (zb b)] h Q := by
  unfold M_acc at k
  have hB : ∀ i, i < 3 → (∀ x, x ∈ sB s i → oS x) ∧ (sI s 10 i = 0 → sB s i = []) := fun i hi => ⟨(A i hi).2.2.2.2.1.2.2.2.1, (A i hi).2.2.2.2.1.2.2.2.2⟩
  refine ev_M.go rfl rfl ?_
  refine ev_W.fn rfl rfl ?_
  refine ev_W.fn rfl rfl ?_
  refine sp_zac_1 hc hT hq hB 3 0 t h _ _ rfl R (fun e t' h' R' E' => ?_) (fun e t' h' y7 y8 y9 R' E' => ?_)
  · rw [if_neg (by rw [e]; decide)] at k
    exact k _ _ R' E'
  · rw [if_pos e] at k
    have hrm := M_rmF_all s c (T, v, q, b) 3 0 e
    have A1 := AI_spF (c := c) (m := (T, v, q, b)) (fun j hj => (hD j hj).1) ⟨hT, hq⟩ 3 0 s rfl (fun j h1 h2 => hrm j h1 (by omega)) A
    have r1 : RI (M_spF c (T, v, q, b) 3 0 s) := by
      have := (M_spF_ok c (T, v, q, b) 3 0 s).2.2.2.2.2.2.1 3 (by omega)
      unfold RI at *; rw [this]; exact hr
    refine ev_W.fn rfl rfl ?_
    refine ev_W.fn rfl rfl ?_
    refine sp_zac_2 hc hT hq 3 0 s t' h' _ _ rfl (fun j h1 h2 => ⟨(hB j h2).1, (hB j h2).2, hrm j h1 (by omega)⟩) R' (fun t2 h2 y7 y8 y9 R2 E2 => ?_)
    have B1 := AI_ret (m := (T, v, q, b)) ⟨hT, hq⟩ A1 r1
    have fin : ∀ (t3 : rf_S) (h3 : ev_H) (y7 y8 y9 : Option Value), zR z m0 (M_ret (M_spF c (T, v, q, b) 3 0 s) (T, v, q, b)) p t3 h3 → rf_E m0 h2 h3 → ev_W (mk_Z_accept z) (184, [some (.ref m0), some (.int (nI c)), some (.long (tz_pl T)), none, some (.int v), some (.int q), some (.int (zb b)), y7, y8, y9], [], h3) Q := by
      intro t3 h3 y7 y8 y9 R3 E3
      refine ev_W.fn rfl rfl ?_
      refine ev_W.fn rfl rfl ?_
      exact sp_zac_3 (fun j hj => (hD j hj).2) 3 0 _ t3 h3 _ _ rfl B1.1 R3 (fun t4 h4 R4 E4 => k t4 h4 R4 (rf_E.tr E' (rf_E.tr E2 (rf_E.tr E3 E4))))
    refine ev_W.fn rfl rfl ?_
    refine ev_W.br rfl rfl (fun h1 => ?_) (fun h1 => ?_)
    · refine fin t2 _ _ _ _ ?_ rf_E.rf
      unfold M_ret
      rw [if_neg (by show ¬ b = true; rw [zb_n0.mp h1]; decide)]
      exact R2
    · have h1 := zb_1.mp h1
      subst h1
      refine ev_W.fn rfl rfl ?_
      refine ev_W.fn rfl rfl ?_
      refine ev_W.fn rfl rfl ?_
      refine ev_W.fn rfl rfl ?_
      refine ev_W.clR rfl rfl rfl rfl rfl R2.ob ?_
      refine sp_Z_retain R2 r1 hT.1 (fun t1 u1 R1 E1 => ?_)
      exact fin _ _ _ _ _ R1 E1
end ZK
