/-! The reference's client: what it gets (laid by wip/whole/p99b.py). -/
section ZG
variable {z : Nat × Nat} {m0 : Nat} {s : hb_S} {p : hb_Pk} {t : rf_S} {h : ev_H} {Q : ev_O → Prop} {c l : Nat}
abbrev spl (id : Int32) : hb_Pa → Bool := fun x => decide (¬ x.2.1 = 0 ∧ x.2.2 = id)
theorem sp_zsp_loop (R : zR z m0 s p t h) (hc : c < 3) (hS : okS (sP s c)) (k : Q (some (.int (on_i (ix_of (spl p.2.1) (sP s c) 0))), h)) : ∀ (B A : List hb_Pa), sP s c = A ++ B → ix_of (spl p.2.1) (sP s c) 0 = ix_of (spl p.2.1) B A.length → ev_W (mk_Z_storePlace z) (2, [some (.ref m0), some (.int (nI c)), some (.int (nI A.length))], [], h) Q := by
  have h4 := hS.1
  intro B
  induction B with
  | nil =>
    intro A hl e
    rw [List.append_nil] at hl
    rw [e] at k
    refine ev_W.fn rfl rfl ?_
    refine ev_W.fn rfl rfl ?_
    refine ev_W.obj rfl R.ob rfl ?_
    refine ev_W.fn rfl rfl ?_
    refine ev_W.g23 R hc rfl rfl ?_
    refine ev_W.brT rfl rfl (nI_le (by rw [hl]; exact Nat.le_refl _) (by rw [hl] at h4; omega)) ?_
    refine ev_W.fn rfl rfl ?_
    refine ev_W.ret rfl rfl ?_
    exact k
  | cons x B ih =>
    intro A hl e
    have hL : (sP s c).length = A.length + 1 + B.length := by rw [hl]; simp; omega
    have hx : (sP s c)[A.length]? = some x := by rw [hl]; simp
    have hP := hS.2.1 x (List.mem_of_getElem? hx)
    have next : spl p.2.1 x = false → ev_W (mk_Z_storePlace z) (44, [some (.ref m0), some (.int (nI c)), some (.int (nI A.length))], [], h) Q := by
      intro hn
      refine ev_W.fn rfl rfl ?_
      refine ev_W.fn rfl rfl ?_
      have nx := ih (A ++ [x]) (by rw [hl]; simp) (by rw [e, ix_of, hn, if_neg (by decide)]; simp)
      rw [List.length_append] at nx
      have e2 : nI (A.length + [x].length) = nI A.length + 1 := (nI_1 _).symm
      rw [e2] at nx
      exact nx
    refine ev_W.fn rfl rfl ?_
    refine ev_W.fn rfl rfl ?_
    refine ev_W.obj rfl R.ob rfl ?_
    refine ev_W.fn rfl rfl ?_
    refine ev_W.g23 R hc rfl rfl ?_
    refine ev_W.brF rfl rfl (nI_ge (by omega) (by omega)) ?_
    refine ev_W.fn rfl rfl ?_
    refine ev_W.obj rfl R.ob rfl ?_
    refine ev_W.fn rfl rfl ?_
    refine ev_W.fn rfl rfl ?_
    refine ev_W.fn rfl rfl ?_
    refine ev_W.fn rfl rfl ?_
    refine ev_W.fn rfl rfl ?_
    refine ev_W.g28 R hc hx (zma 4 c _) rfl ?_
    refine ev_W.br rfl rfl (fun h1 => ?_) (fun h1 => ?_)
    · exact next (decide_eq_false (fun q => q.1 (hP.le.mp h1)))
    · have h0 : ¬ x.2.1 = 0 := fun q => h1 (hP.le.mpr q)
      refine ev_W.fn rfl rfl ?_
      refine ev_W.obj rfl R.ob rfl ?_
      refine ev_W.fn rfl rfl ?_
      refine ev_W.fn rfl rfl ?_
      refine ev_W.fn rfl rfl ?_
      refine ev_W.fn rfl rfl ?_
      refine ev_W.fn rfl rfl ?_
      refine ev_W.g29 R hc hx h0 (zma 4 c _) rfl ?_
      refine ev_W.fn rfl rfl ?_
      refine ev_W.g13 R rfl ?_
      refine ev_W.br rfl rfl (fun h2 => ?_) (fun h2 => ?_)
      · exact next (decide_eq_false (fun q => h2 q.2))
      · refine ev_W.fn rfl rfl ?_
        refine ev_W.ret rfl rfl ?_
        rw [e, ix_of, if_pos (decide_eq_true ⟨h0, Decidable.not_not.mp h2⟩)] at k
        exact k
theorem sp_Z_storePlace (R : zR z m0 s p t h) (hc : c < 3) (hS : okS (sP s c)) (k : Q (some (.int (on_i (ix_of (spl p.2.1) (sP s c) 0))), h)) : ev_M (mf_Z_storePlace z) [.ref m0, .int (nI c)] h Q := by
  refine ev_M.go rfl rfl ?_
  refine ev_W.fn rfl rfl ?_
  refine ev_W.fn rfl rfl ?_
  exact sp_zsp_loop R hc hS k _ [] rfl rfl
theorem sp_Z_inboxed {n : Nat} (R : zR z m0 s p t h) (hc : c < 3) (hn : sI s 2 c = nI n) (h31 : n < 2 ^ 31) (k : ∀ t' h', zR z m0 (M_put s c p.2.2.1) p t' h' → rf_E m0 h h' → Q (none, h')) : ev_M (mf_Z_inboxed z) [.ref m0, .int (nI c)] h Q := by
  unfold M_put at k
  have tail : ∀ (s' : hb_S) (t' : rf_S) (h' : ev_H), zR z m0 s' p t' h' → rf_E m0 h h' → sI s' 2 c = sI s 2 c → (∀ t2 h2, zR z m0 (tI s' 2 c (sI s 2 c + 1)) p t2 h2 → rf_E m0 h h2 → Q (none, h2)) → ev_W (mk_Z_inboxed z) (31, [some (.ref m0), some (.int (nI c))], [], h') Q := by
    intro s' t' h' R E0 e k
    refine ev_W.fn rfl rfl ?_
    refine ev_W.obj rfl R.ob rfl ?_
    refine ev_W.fn rfl rfl ?_
    refine ev_W.fn rfl rfl ?_
    refine ev_W.g31 R hc rfl rfl ?_
    refine ev_W.fn rfl rfl ?_
    refine ev_W.fn rfl rfl ?_
    refine ev_W.p31 R hc rfl rfl (fun t1 u1 R1 E1 => ?_)
    refine ev_W.ret rfl rfl ?_
    rw [e] at R1
    exact k _ _ R1 (rf_E.tr E0 E1)
  refine ev_M.go rfl rfl ?_
  refine ev_W.fn rfl rfl ?_
  refine ev_W.obj rfl R.ob rfl ?_
  refine ev_W.fn rfl rfl ?_
  refine ev_W.g31 R hc rfl rfl ?_
  refine ev_W.fn rfl rfl ?_
  refine ev_W.br rfl rfl (fun h1 => ?_) (fun h1 => ?_)
  · have g : ¬ (0 ≤ sI s 2 c ∧ sI s 2 c ≤ 99) := fun q => by
      have h2 := q.2
      rw [hn] at h1 h2
      have a := (nI_leI (a := 100) (by decide) h31).mp h1
      have b := (nI_leI (b := 99) h31 (by decide)).mp h2
      omega
    rw [if_neg g] at k
    exact tail _ _ _ R rf_E.rf rfl k
  · have h100 : n < 100 := Nat.lt_of_not_le (fun q => h1 (by rw [hn]; exact nI_le (a := 100) q h31))
    have g : 0 ≤ sI s 2 c ∧ sI s 2 c ≤ 99 := by rw [hn]; exact ⟨nI_pos' h31, nI_le (b := 99) (by omega) (by decide)⟩
    rw [if_pos g, hn, nI_clamp h31, ← hn] at k
    refine ev_W.fn rfl rfl ?_
    refine ev_W.obj rfl R.ob rfl ?_
    refine ev_W.fn rfl rfl ?_
    refine ev_W.fn rfl rfl ?_
    refine ev_W.fn rfl rfl ?_
    refine ev_W.fn rfl rfl ?_
    refine ev_W.obj rfl R.ob rfl ?_
    refine ev_W.fn rfl rfl ?_
    refine ev_W.g31 R hc rfl rfl ?_
    refine ev_W.fn rfl rfl ?_
    refine ev_W.fn rfl rfl ?_
    refine ev_W.g14 R rfl ?_
    refine ev_W.p32 R (j := n) hc h100 (by rw [hn]; exact zma 100 c n) rfl (fun t1 u1 R1 E1 => ?_)
    exact tail _ _ _ R1 E1 (by simp [st_a]) k
def hcl : Nat → Int32 → Int32
  | 0, x => x
  | i + 1, x => hrem (hcl i x) (nI i)
theorem hcl_9 {k : Nat} (hk : k < 512) : hcl 9 (nI k) = 0 := by
  have : ∀ k, k < 512 → hcl 9 (nI k) = 0 := by decide +kernel
  exact this k hk
theorem hcl_lt {k : Nat} (hk : k < 512) : ∀ i, i ≤ 9 → ∃ m, m < 512 ∧ hcl i (nI k) = nI m := by
  intro i
  induction i with
  | zero => intro _; exact ⟨k, hk, rfl⟩
  | succ i ih =>
    intro hi
    obtain ⟨m, h1, h2⟩ := ih (by omega)
    have h9 : ∀ i, i < 9 → ∀ k, k < 512 → (k - (k &&& 2 ^ i)) < 512 ∧ hrem (nI k) (nI i) = nI (k - (k &&& 2 ^ i)) := by decide +kernel
    rw [hcl, h2]
    exact ⟨_, h9 i (by omega) m h1⟩
theorem sp_zgr_h (hc : c < 3) {k0 : Nat} (hk0 : k0 < 512) (h14 : p.2.2.1 = 0) : ∀ (n i : Nat) (t : rf_S) (h : ev_H) (y : Option Value), i + n = 9 → zR z m0 (tI s 4 c (hcl i (nI k0))) p t h → (∀ t' h' (y2 : Option Value), zR z m0 (tI s 4 c 0) p t' h' → rf_E m0 h h' → ev_W (mk_Z_greeted z) (40, [some (.ref m0), some (.int (nI c)), y2, y], [], h') Q) → ev_W (mk_Z_greeted z) (9, [some (.ref m0), some (.int (nI c)), some (.int (nI i)), y], [], h) Q := by
  intro n
  induction n with
  | zero =>
    intro i t h y hi R k
    have : i = 9 := by omega
    subst this
    rw [hcl_9 hk0] at R
    refine ev_W.fn rfl rfl ?_
    refine ev_W.fn rfl rfl ?_
    refine ev_W.fn rfl rfl ?_
    exact k _ _ _ R rf_E.rf
  | succ n ih =>
    intro i t h y hi R k
    obtain ⟨m, hm, em⟩ := hcl_lt hk0 i (by omega)
    have e4 : sI (tI s 4 c (hcl i (nI k0))) 4 c = hcl i (nI k0) := by simp [st_a]
    refine ev_W.fn rfl rfl ?_
    refine ev_W.fn rfl rfl ?_
    refine ev_W.brF rfl rfl (nI_ge (b := 9) (by omega) (by decide)) ?_
    refine ev_W.fn rfl rfl ?_
    refine ev_W.g14 R rfl ?_
    refine ev_W.brF rfl rfl (fun q => q h14) ?_
    refine ev_W.fn rfl rfl ?_
    refine ev_W.obj rfl R.ob rfl ?_
    refine ev_W.fn rfl rfl ?_
    refine ev_W.fn rfl rfl ?_
    refine ev_W.fn rfl rfl ?_
    refine ev_W.fn rfl rfl ?_
    refine ev_W.fn rfl rfl ?_
    refine ev_W.fn rfl rfl ?_
    refine ev_W.p30r R (j := i) hc (by omega) ⟨m, hm, by rw [e4]; exact em⟩ (zma 9 c i) rfl (fun t1 u1 R1 E1 => ?_)
    refine ev_W.fn rfl rfl ?_
    refine ev_W.fn rfl rfl ?_
    rw [e4, tI_tI] at R1
    have nx := ih (i + 1) _ _ y (by omega) R1 (fun t' h' y2 R' E' => k t' h' y2 R' (rf_E.tr (E1) E'))
    rw [← nI_1] at nx
    exact nx
theorem pa_so_c (x : hb_Pa) (B : List hb_Pa) : pa_so (x :: B) = if x.2.1 = 2 then pa_so B else (x.1, 0, 0) :: pa_so B := by
  unfold pa_so
  rw [List.filter_cons]
  by_cases e : x.2.1 = 2 <;> simp [e]
theorem sp_zgr_s (hc : c < 3) (h14 : p.2.2.1 = 0) : ∀ (n : Nat) (A B : List hb_Pa) (s : hb_S) (t : rf_S) (h : ev_H) (y : Option Value), A.length = n → A.length + B.length ≤ 4 → zR z m0 s p t h → sP s c = A ++ pa_so B → (∀ t' h' (y2 : Option Value), zR z m0 (tP s c (pa_so (A ++ B))) p t' h' → rf_E m0 h h' → ev_W (mk_Z_greeted z) (100, [some (.ref m0), some (.int (nI c)), y2, y], [], h') Q) → ev_W (mk_Z_greeted z) (49, [some (.ref m0), some (.int (nI c)), some (.int (nI A.length - 1)), y], [], h) Q := by
  intro n
  induction n with
  | zero =>
    intro A B s t h y hA h4 R hs k
    have hA0 : A = [] := List.length_eq_zero_iff.mp hA
    subst hA0
    refine ev_W.fn rfl rfl ?_
    refine ev_W.fn rfl rfl ?_
    refine k t _ _ ?_ rf_E.rf
    rw [tP_id (by rw [hs]; rfl)]
    exact R
  | succ n ih =>
    intro A B s t h y hA h4 R hs k
    have hne : A ≠ [] := fun e => by rw [e] at hA; simp at hA
    obtain ⟨A', x, hAx⟩ : ∃ A' x, A = A' ++ [x] := ⟨_, _, (List.dropLast_concat_getLast hne).symm⟩
    subst hAx
    have hA' : A'.length = n := by simpa using hA
    have hix : nI (A' ++ [x]).length - 1 = nI A'.length := by rw [nI_p1 (by simp)]; simp
    have hx : (sP s c)[A'.length]? = some x := by rw [hs]; simp
    have hlt : A'.length < (sP s c).length := (List.getElem?_eq_some_iff.mp hx).1
    have hl : A'.length ≤ 3 := by simp at h4; omega
    rw [hix]
    have back : ∀ (s' : hb_S) (t' : rf_S) (h' : ev_H), zR z m0 s' p t' h' → rf_E m0 h h' → s' = tP s c (A' ++ pa_so (x :: B)) → ev_W (mk_Z_greeted z) (94, [some (.ref m0), some (.int (nI c)), some (.int (nI A'.length)), y], [], h') Q := by
      intro s' t' h' R' E' e
      refine ev_W.fn rfl rfl ?_
      refine ev_W.fn rfl rfl ?_
      have nx := ih A' (x :: B) s' t' h' y hA' (by simp at h4 ⊢; omega) R' (by rw [e, sP_tP]) (fun t2 h2 y2 R2 E2 => k t2 h2 y2 (by rw [e, tP_tP] at R2; rw [List.append_assoc]; exact R2) (rf_E.tr E' E2))
      rw [← nI_m1s] at nx
      exact nx
    refine ev_W.fn rfl rfl ?_
    refine ev_W.brF rfl rfl (nI_pos (by omega)) ?_
    refine ev_W.fn rfl rfl ?_
    refine ev_W.g14 R rfl ?_
    refine ev_W.brF rfl rfl (fun q => q h14) ?_
    refine ev_W.fn rfl rfl ?_
    refine ev_W.obj rfl R.ob rfl ?_
    refine ev_W.fn rfl rfl ?_
    refine ev_W.fn rfl rfl ?_
    refine ev_W.fn rfl rfl ?_
    refine ev_W.fn rfl rfl ?_
    refine ev_W.fn rfl rfl ?_
    refine ev_W.g28 R hc hx (zma 4 c _) rfl ?_
    refine ev_W.fn rfl rfl ?_
    refine ev_W.br rfl rfl (fun h1 => ?_) (fun h1 => ?_)
    · refine ev_W.fn rfl rfl ?_
      refine ev_W.obj rfl R.ob rfl ?_
      refine ev_W.fn rfl rfl ?_
      refine ev_W.fn rfl rfl ?_
      refine ev_W.fn rfl rfl ?_
      refine ev_W.fn rfl rfl ?_
      refine ev_W.fn rfl rfl ?_
      refine ev_W.fn rfl rfl ?_
      refine ev_W.p28s R (id := 0) hc hx (fun q => absurd rfl q) (zma 4 c _) rfl (fun t1 u1 R1 E1 => ?_)
      refine back _ _ _ R1 E1 ?_
      congr 1
      rw [hs, pa_so_c, if_neg h1, List.append_assoc, List.singleton_append, set_mid]
    · refine ev_W.fn rfl rfl ?_
      refine ev_W.fn rfl rfl ?_
      refine ev_W.fn rfl rfl ?_
      refine ev_W.clR rfl rfl rfl rfl rfl R.ob ?_
      refine sp_Z_forget R hc hlt (fun t2 u2 R2 E2 => ?_)
      refine ev_W.fn rfl rfl ?_
      refine back _ _ _ R2 E2 ?_
      congr 1
      rw [hs, pa_so_c, if_pos (Decidable.not_not.mp h1), List.append_assoc, List.eraseIdx_append_of_length_le (Nat.le_refl _), Nat.sub_self]; rfl
theorem sp_zgr_a (hc : c < 3) : ∀ (B A : List hb_Pa) (s : hb_S) (t : rf_S) (h : ev_H) (y : Option Value), zR z m0 s p t h → sP s c = A ++ B → (∀ x, x ∈ B → oP x) → A.length + B.length ≤ 4 → (sN s (2 * c)).length + B.length ≤ 30 → (∀ t' h' (y2 y3 : Option Value), zR z m0 (M_saF B s c) p t' h' → rf_E m0 h h' → ev_W (mk_Z_greeted z) (171, [some (.ref m0), some (.int (nI c)), y2, y3], [], h') Q) → ev_W (mk_Z_greeted z) (102, [some (.ref m0), some (.int (nI c)), some (.int (nI A.length)), y], [], h) Q := by
  intro B
  induction B with
  | nil =>
    intro A s t h y R hs _ h4 hu k
    rw [List.append_nil] at hs
    refine ev_W.fn rfl rfl ?_
    refine ev_W.fn rfl rfl ?_
    refine ev_W.obj rfl R.ob rfl ?_
    refine ev_W.fn rfl rfl ?_
    refine ev_W.g23 R hc rfl rfl ?_
    refine ev_W.brT rfl rfl (nI_le (by rw [hs]; exact Nat.le_refl _) (by simp at h4; omega)) ?_
    exact k _ _ _ _ R rf_E.rf
  | cons x B ih =>
    intro A s t h y R hs hB h4 hu k
    have hL : (sP s c).length = A.length + 1 + B.length := by rw [hs]; simp; omega
    have hx : (sP s c)[A.length]? = some x := by rw [hs]; simp
    have hP := hB x List.mem_cons_self
    rw [List.length_cons] at h4 hu
    have go : ∀ (s' : hb_S) (t' : rf_S) (h' : ev_H) (y : Option Value), zR z m0 s' p t' h' → rf_E m0 h h' → s' = (if x.2.1 = 0 then s else M_up s c (pa_rp x)) → ev_W (mk_Z_greeted z) (165, [some (.ref m0), some (.int (nI c)), some (.int (nI A.length)), y], [], h') Q := by
      intro s' t' h' y R' E' e
      refine ev_W.fn rfl rfl ?_
      refine ev_W.fn rfl rfl ?_
      have e1 : sP s' c = sP s c := by rw [e]; split <;> rfl
      have e2 : (sN s' (2 * c)).length ≤ (sN s (2 * c)).length + 1 := by
        rw [e]; split
        · omega
        · have : sN (M_up s c (pa_rp x)) (2 * c) = sN s (2 * c) ++ [pa_rp x] := sN_tN _ _ _
          rw [this]; simp
      have nx := ih (A ++ [x]) s' t' h' y R' (by rw [e1, hs]; simp) (fun a ha => hB a (List.mem_cons_of_mem _ ha)) (by simp; omega) (by omega) (fun t2 h2 y2 y3 R2 E2 => k t2 h2 y2 y3 (by rw [M_saF, ← e]; exact R2) (rf_E.tr E' E2))
      rw [List.length_append] at nx
      have e3 : nI (A.length + [x].length) = nI A.length + 1 := (nI_1 _).symm
      rw [e3] at nx
      exact nx
    refine ev_W.fn rfl rfl ?_
    refine ev_W.fn rfl rfl ?_
    refine ev_W.obj rfl R.ob rfl ?_
    refine ev_W.fn rfl rfl ?_
    refine ev_W.g23 R hc rfl rfl ?_
    refine ev_W.brF rfl rfl (nI_ge (by omega) (by omega)) ?_
    refine ev_W.fn rfl rfl ?_
    refine ev_W.fn rfl rfl ?_
    refine ev_W.fn rfl rfl ?_
    refine ev_W.fn rfl rfl ?_
    refine ev_W.fn rfl rfl ?_
    refine ev_W.fn rfl rfl ?_
    refine ev_W.fn rfl rfl ?_
    refine ev_W.obj rfl R.ob rfl ?_
    refine ev_W.fn rfl rfl ?_
    refine ev_W.g28 R hc hx (zma 4 c _) rfl ?_
    refine ev_W.fn rfl rfl ?_
    refine ev_W.br rfl rfl (fun h1 => ?_) (fun h1 => ?_)
    · refine ev_W.fn rfl rfl ?_
      refine ev_W.obj rfl R.ob rfl ?_
      refine ev_W.fn rfl rfl ?_
      refine ev_W.g28 R hc hx (zma 4 c _) rfl ?_
      refine ev_W.fn rfl rfl ?_
      refine ev_W.br rfl rfl (fun h2 => ?_) (fun h2 => ?_)
      · refine go _ _ _ _ R rf_E.rf ?_
        rcases hP.st with ⟨a, _⟩ | ⟨a, _⟩ | ⟨a, _⟩
        · rw [if_pos a]
        · exact absurd a h1
        · exact absurd a h2
      · have h2 := Decidable.not_not.mp h2
        have h0 : ¬ x.2.1 = 0 := by rw [h2]; decide
        have e2 : (2 : Int32) * nI c = nI (2 * c) := zm 2 c
        refine ev_W.fn rfl rfl ?_
        refine ev_W.fn rfl rfl ?_
        refine ev_W.fn rfl rfl ?_
        refine ev_W.fn rfl rfl ?_
        refine ev_W.fn rfl rfl ?_
        refine ev_W.fn rfl rfl ?_
        refine ev_W.obj rfl R.ob rfl ?_
        refine ev_W.fn rfl rfl ?_
        refine ev_W.g29 R hc hx h0 (zma 4 c _) rfl ?_
        rw [e2]
        refine ev_W.fn rfl rfl ?_
        refine ev_W.clR rfl rfl rfl rfl rfl R.ob ?_
        refine sp_Z_send R (l := 2 * c) (by omega) (by omega) (by decide) (fun t1 u1 R1 E1 => ?_)
        refine ev_W.fn rfl rfl ?_
        refine go _ _ _ _ R1 E1 ?_
        rw [if_neg h0]; unfold pa_rp; rw [if_neg h1]; rfl
    · have h1 := Decidable.not_not.mp h1
      have h0 : ¬ x.2.1 = 0 := by rw [h1]; decide
      refine ev_W.fn rfl rfl ?_
      refine ev_W.fn rfl rfl ?_
      refine ev_W.fn rfl rfl ?_
      refine ev_W.fn rfl rfl ?_
      refine ev_W.clR rfl rfl rfl rfl rfl R.ob ?_
      refine sp_Z_sendStored R (a := true) hc hx h0 (zma 4 c _) (by omega) (fun t2 u2 R2 E2 => ?_)
      refine ev_W.fn rfl rfl ?_
      refine go _ _ _ _ R2 E2 ?_
      rw [if_neg h0]; unfold pa_rp; rw [if_pos h1]
theorem sp_Z_greeted (R : zR z m0 s p t h) (hc : c < 3) (hS : okS (sP s c)) (hu : (sN s (2 * c)).length ≤ 20) (hk : ∃ k, k < 512 ∧ sI s 4 c = nI k) (k : ∀ t' h', zR z m0 (M_ack s c p.2.2.1) p t' h' → rf_E m0 h h' → Q (none, h')) : ev_M (mf_Z_greeted z) [.ref m0, .int (nI c)] h Q := by
  have h4 := hS.1
  -- from the sending on
  have snd : ∀ (s' : hb_S) (t' : rf_S) (h' : ev_H) (y2 y3 : Option Value), zR z m0 s' p t' h' → rf_E m0 h h' → okS (sP s' c) → sN s' (2 * c) = sN s (2 * c) → M_cpump (M_saF (sP s' c) s' c) c = M_ack s c p.2.2.1 → ev_W (mk_Z_greeted z) (100, [some (.ref m0), some (.int (nI c)), y2, y3], [], h') Q := by
    intro s' t' h' y2 y3 R' E' hS' eN eM
    have h4' := hS'.1
    refine ev_W.fn rfl rfl ?_
    refine ev_W.fn rfl rfl ?_
    refine sp_zgr_a hc (sP s' c) [] s' t' h' _ R' rfl hS'.2.1 (by simp; omega) (by rw [eN]; omega) (fun t2 h2 y2 y3 R E2 => ?_)
    have e1 : ∀ (B : List hb_Pa) (s : hb_S), sP (M_saF B s c) = sP s ∧ (sN (M_saF B s c) (2 * c)).length ≤ (sN s (2 * c)).length + B.length := by
      intro B
      induction B with
      | nil => intro s; exact ⟨rfl, Nat.le_refl _⟩
      | cons x B ih =>
        intro s
        rw [M_saF]
        by_cases q : x.2.1 = 0
        · rw [if_pos q]; exact ⟨(ih s).1, by have := (ih s).2; rw [List.length_cons]; omega⟩
        · rw [if_neg q]
          have e : sN (M_up s c (pa_rp x)) (2 * c) = sN s (2 * c) ++ [pa_rp x] := sN_tN _ _ _
          refine ⟨(ih _).1, ?_⟩
          have := (ih (M_up s c (pa_rp x))).2
          rw [e] at this
          simp at this
          rw [List.length_cons]; omega
    have e2 := (e1 (sP s' c) s').2
    have e3 : sP (M_saF (sP s' c) s' c) c = sP s' c := by rw [(e1 _ _).1]
    refine ev_W.fn rfl rfl ?_
    refine ev_W.fn rfl rfl ?_
    refine ev_W.clR rfl rfl rfl rfl rfl R.ob ?_
    refine sp_Z_pumpClient R hc (by rw [e3]; exact hS') (by rw [eN] at e2; omega) (fun t1 u1 R1 E1 => ?_)
    refine ev_W.ret rfl rfl ?_
    rw [eM] at R1
    exact k _ _ R1 (rf_E.tr E' (rf_E.tr E2 E1))
  -- from the clearing of the store on
  have str : ∀ (s' : hb_S) (t' : rf_S) (h' : ev_H) (y2 y3 : Option Value), zR z m0 s' p t' h' → rf_E m0 h h' → (p.2.2.1 = 0 → s' = tI (tI s 0 c 2) 4 c 0) → (¬ p.2.2.1 = 0 → s' = tI s 0 c 2) → ev_W (mk_Z_greeted z) (40, [some (.ref m0), some (.int (nI c)), y2, y3], [], h') Q := by
    intro s' t' h' y2 y3 R E' e0 e1
    have eP : sP s' c = sP s c := by
      by_cases q : p.2.2.1 = 0
      · rw [e0 q]; rfl
      · rw [e1 q]; rfl
    have eN : sN s' = sN s := by
      by_cases q : p.2.2.1 = 0
      · rw [e0 q]; rfl
      · rw [e1 q]; rfl
    by_cases q : p.2.2.1 = 0
    · refine ev_W.fn rfl rfl ?_
      refine ev_W.obj rfl R.ob rfl ?_
      refine ev_W.fn rfl rfl ?_
      refine ev_W.g23 R hc rfl rfl ?_
      refine ev_W.fn rfl rfl ?_
      refine ev_W.fn rfl rfl ?_
      refine ev_W.fn rfl rfl ?_
      rw [eP]
      refine sp_zgr_s hc q (sP s c).length (sP s c) [] s' _ _ _ rfl (by simp; omega) R (by rw [eP]; simp [pa_so]) (fun t2 h2 y2 R2 E2 => ?_)
      rw [List.append_nil, e0 q] at R2
      have eso : sP (tP (tI (tI s 0 c 2) 4 c 0) c (pa_so (sP s c))) c = pa_so (sP s c) := sP_tP _ _ _
      refine snd _ _ _ _ _ R2 (rf_E.tr E' E2) (by rw [eso]; exact okS_so hS) rfl ?_
      unfold M_ack
      rw [if_pos q, eso]
      have nop : ∀ (B : List hb_Pa) (s : hb_S), (∀ x, x ∈ B → x.2.1 = 0) → M_saF B s c = s := by
        intro B
        induction B with
        | nil => intro s _; rfl
        | cons x B ih => intro s hB; rw [M_saF, if_pos (hB x List.mem_cons_self)]; exact ih s (fun a ha => hB a (List.mem_cons_of_mem _ ha))
      rw [nop _ _ (fun x hx => by obtain ⟨b, _, rfl⟩ := so_mem hx; rfl)]
    · -- nothing to clear
      refine ev_W.fn rfl rfl ?_
      refine ev_W.obj rfl R.ob rfl ?_
      refine ev_W.fn rfl rfl ?_
      refine ev_W.g23 R hc rfl rfl ?_
      refine ev_W.fn rfl rfl ?_
      refine ev_W.fn rfl rfl ?_
      refine ev_W.fn rfl rfl ?_
      refine ev_W.fn rfl rfl ?_
      refine ev_W.br rfl rfl (fun h1 => ?_) (fun h1 => ?_)
      · refine snd _ _ _ _ _ R E' (by rw [eP]; exact hS) (by rw [eN]) ?_
        rw [eP, e1 q]
        unfold M_ack
        rw [if_neg q]
      · refine ev_W.fn rfl rfl ?_
        refine ev_W.g14 R rfl ?_
        refine ev_W.brT rfl rfl q ?_
        refine snd _ _ _ _ _ R E' (by rw [eP]; exact hS) (by rw [eN]) ?_
        rw [eP, e1 q]
        unfold M_ack
        rw [if_neg q]
  refine ev_M.go rfl rfl ?_
  refine ev_W.fn rfl rfl ?_
  refine ev_W.obj rfl R.ob rfl ?_
  refine ev_W.fn rfl rfl ?_
  refine ev_W.fn rfl rfl ?_
  refine ev_W.p22 R hc rfl rfl (fun t1 u1 R1 E1 => ?_)
  refine ev_W.fn rfl rfl ?_
  refine ev_W.fn rfl rfl ?_
  by_cases q : p.2.2.1 = 0
  · obtain ⟨k0, hk0, ek⟩ := hk
    have e4 : sI (tI s 0 c 2) 4 c = nI k0 := ek
    refine sp_zgr_h (s := tI s 0 c 2) hc hk0 q 9 0 _ _ _ rfl (by rw [show hcl 0 (nI k0) = nI k0 from rfl, ← e4, tI_id rfl]; exact R1) (fun t2 h2 y2 R2 E2 => ?_)
    exact str _ _ _ _ _ R2 (rf_E.tr (E1) E2) (fun _ => rfl) (fun w => absurd q w)
  · refine ev_W.fn rfl rfl ?_
    refine ev_W.fn rfl rfl ?_
    refine ev_W.fn rfl rfl ?_
    refine ev_W.fn rfl rfl ?_
    refine ev_W.g14 R1 rfl ?_
    refine ev_W.brT rfl rfl q ?_
    exact str _ _ _ _ _ R1 (E1) (fun w => absurd w q) (fun _ => rfl)
end ZG
