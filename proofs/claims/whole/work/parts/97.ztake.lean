/-! The reference shifts its rows (laid by wip/whole/p97.py). -/
def shf {α : Type} (xs : List α) (k j i : Nat) : Option α := if k ≤ i ∧ i < j then xs[i + 1]? else xs[i]?
theorem shf_0 {α : Type} {xs : List α} {k : Nat} (i : Nat) : shf xs k k i = xs[i]? := if_neg (by omega)
theorem shf_end {α : Type} {xs : List α} {k i : Nat} {x : α} (hk : k < xs.length) (h : (xs.eraseIdx k)[i]? = some x) : shf xs k (xs.length - 1) i = some x := by
  have hi := (List.getElem?_eq_some_iff.mp h).1
  rw [List.length_eraseIdx_of_lt hk] at hi
  rw [List.getElem?_eraseIdx] at h
  unfold shf
  by_cases q : i < k
  · rw [if_pos q] at h; rw [if_neg (by omega)]; exact h
  · rw [if_neg q] at h; rw [if_pos (by omega)]; exact h
theorem shf_s {α : Type} {xs : List α} {k j i : Nat} {x : α} (hk : k ≤ j) (h : shf xs k (j + 1) i = some x) : (i = j ∧ shf xs k j (j + 1) = some x) ∨ (i ≠ j ∧ shf xs k j i = some x) := by
  unfold shf at h ⊢
  by_cases e : i = j
  · left
    subst e
    rw [if_pos (by omega)] at h
    rw [if_neg (by omega)]
    exact ⟨rfl, h⟩
  · right
    refine ⟨e, ?_⟩
    by_cases q : k ≤ i ∧ i < j
    · rw [if_pos (by omega)] at h; rw [if_pos q]; exact h
    · rw [if_neg (by omega)] at h; rw [if_neg q]; exact h
theorem shf_lt {α : Type} {xs : List α} {k j i : Nat} {x : α} (hj : j < xs.length) (h : shf xs k j i = some x) : i < xs.length := by
  unfold shf at h
  split at h
  · omega
  · exact (List.getElem?_eq_some_iff.mp h).1
def cpN (t : rf_S) (q : Nat) : rf_S := uI (uL (uI (uI (uL (uI (uI (uI (uI (uI (uI (t) 1 q (t.1 1 (q + 1))) 2 q (t.1 2 (q + 1))) 3 q (t.1 3 (q + 1))) 4 q (t.1 4 (q + 1))) 5 q (t.1 5 (q + 1))) 6 q (t.1 6 (q + 1))) 7 q (t.2.1 7 (q + 1))) 8 q (t.1 8 (q + 1))) 9 q (t.1 9 (q + 1))) 10 q (t.2.1 10 (q + 1))) 11 q (t.1 11 (q + 1))
theorem cpN_ag (t : rf_S) (q : Nat) : ag (fun f j => 1 ≤ f ∧ f < 12 ∧ j = q) t (cpN t q) := by
  have W : ∀ f, 1 ≤ f → f < 12 → (1 ≤ f ∧ f < 12 ∧ q = q) := fun f a b => ⟨a, b, rfl⟩
  exact (((((((((((ag.rf.wI _ (W 1 (by decide) (by decide))).wI _ (W 2 (by decide) (by decide))).wI _ (W 3 (by decide) (by decide))).wI _ (W 4 (by decide) (by decide))).wI _ (W 5 (by decide) (by decide))).wI _ (W 6 (by decide) (by decide))).wL _ (W 7 (by decide) (by decide))).wI _ (W 8 (by decide) (by decide))).wI _ (W 9 (by decide) (by decide))).wL _ (W 10 (by decide) (by decide))).wI _ (W 11 (by decide) (by decide)))
theorem cpN_1 (t : rf_S) (q : Nat) : (cpN t q).1 1 q = t.1 1 (q + 1) := by simp [cpN, uI_1, uL_1, uL_0, uI_2]
theorem cpN_2 (t : rf_S) (q : Nat) : (cpN t q).1 2 q = t.1 2 (q + 1) := by simp [cpN, uI_1, uL_1, uL_0, uI_2]
theorem cpN_3 (t : rf_S) (q : Nat) : (cpN t q).1 3 q = t.1 3 (q + 1) := by simp [cpN, uI_1, uL_1, uL_0, uI_2]
theorem cpN_4 (t : rf_S) (q : Nat) : (cpN t q).1 4 q = t.1 4 (q + 1) := by simp [cpN, uI_1, uL_1, uL_0, uI_2]
theorem cpN_5 (t : rf_S) (q : Nat) : (cpN t q).1 5 q = t.1 5 (q + 1) := by simp [cpN, uI_1, uL_1, uL_0, uI_2]
theorem cpN_6 (t : rf_S) (q : Nat) : (cpN t q).1 6 q = t.1 6 (q + 1) := by simp [cpN, uI_1, uL_1, uL_0, uI_2]
theorem cpN_7 (t : rf_S) (q : Nat) : (cpN t q).2.1 7 q = t.2.1 7 (q + 1) := by simp [cpN, uI_1, uL_1, uL_0, uI_2]
theorem cpN_8 (t : rf_S) (q : Nat) : (cpN t q).1 8 q = t.1 8 (q + 1) := by simp [cpN, uI_1, uL_1, uL_0, uI_2]
theorem cpN_9 (t : rf_S) (q : Nat) : (cpN t q).1 9 q = t.1 9 (q + 1) := by simp [cpN, uI_1, uL_1, uL_0, uI_2]
theorem cpN_10 (t : rf_S) (q : Nat) : (cpN t q).2.1 10 q = t.2.1 10 (q + 1) := by simp [cpN, uI_1, uL_1, uL_0, uI_2]
theorem cpN_11 (t : rf_S) (q : Nat) : (cpN t q).1 11 q = t.1 11 (q + 1) := by simp [cpN, uI_1, uL_1, uL_0, uI_2]
theorem rpk.cp {t : rf_S} {q : Nat} {x : hb_Pk} (r : rpk t (q + 1) x) : rpk (cpN t q) q x := by
  obtain ⟨a1, a2, a3, a4, a5, a6, a7, a8⟩ := r
  exact ⟨(cpN_1 t q).trans a1, (cpN_2 t q).trans a2, (cpN_3 t q).trans a3, (cpN_4 t q).trans a4, (cpN_5 t q).trans a5, (cpN_6 t q).trans a6, fun e => ⟨(cpN_8 t q).trans (a7 e).1, (cpN_9 t q).trans (a7 e).2.1, (cpN_10 t q).trans (a7 e).2.2.1, (cpN_11 t q).trans (a7 e).2.2.2⟩, fun e => (cpN_7 t q).trans (a8 e)⟩
theorem rpk.b {t : rf_S} {q : Nat} {x : hb_Pk} (r : rpk t q x) : (t.1 5 q = 0 ∨ t.1 5 q = 1) ∧ (t.1 6 q = 0 ∨ t.1 6 q = 1) := by
  rw [r.2.2.2.2.1, r.2.2.2.2.2.1]; exact ⟨zb_01 _, zb_01 _⟩
def zrg (t : rf_S) (q : Nat) : rf_S := uS (uK (uS (uS (uK (uS (uS (uS (uS (uS t 12 (t.1 1 q)) 13 (t.1 2 q)) 14 (t.1 3 q)) 15 (t.1 4 q)) 16 (t.1 6 q)) 17 (t.2.1 7 q)) 18 (t.1 8 q)) 19 (t.1 9 q)) 20 (t.2.1 10 q)) 21 (t.1 11 q)
theorem rpk.rg {t : rf_S} {q : Nat} {x : hb_Pk} (r : rpk t q x) : rg (zrg t q) x := by
  obtain ⟨a1, a2, a3, a4, a5, a6, a7, a8⟩ := r
  exact ⟨a1, a2, a3, a4, a6, fun e => ⟨(a7 e).1, (a7 e).2.1, (a7 e).2.2.1, (a7 e).2.2.2⟩, fun e => a8 e⟩
section ZT
variable {z : Nat × Nat} {m0 : Nat} {s : hb_S} {p : hb_Pk} {t : rf_S} {h : ev_H} {Q : ev_O → Prop} {c l : Nat}
theorem sp_ztf_loop {ps : List hb_Pk} (hl : l < 6) (h31 : ps.length ≤ 31) : ∀ (m j : Nat) (t : rf_S) (h : ev_H), j + m + 1 = ps.length → rf_P z m0 t h → t.1 0 l = nI (ps.length - 1) → (∀ i x, shf ps 0 j i = some x → rpk t (32 * l + i) x) → (∀ t' h', rf_P z m0 t' h' → rf_E m0 h h' → ag (fun f j => 1 ≤ f ∧ f < 12 ∧ 32 * l ≤ j ∧ j < 32 * l + 32) t t' → t'.2.2 = t.2.2 → (∀ i x, shf ps 0 (ps.length - 1) i = some x → rpk t' (32 * l + i) x) → Q (none, h')) → ev_W (mk_Z_takeFirst z) (117, [some (.ref m0), some (.int (nI l)), some (.int (32 * nI l)), some (.int (nI (32 * l + j)))], [], h) Q := by
  intro m
  induction m with
  | zero =>
    intro j t h hj P hn hr k
    refine ev_W.fn rfl rfl ?_
    refine ev_W.fn rfl rfl ?_
    refine ev_W.fn rfl rfl ?_
    refine ev_W.obj rfl P.2.2.2.1 rfl ?_
    refine ev_W.fn rfl rfl ?_
    refine ev_W.ri 0 P rfl rfl hl rfl ?_
    refine ev_W.fn rfl rfl ?_
    refine ev_W.brT rfl rfl (by rw [hn]; rw [show (32 : Int32) * nI l + nI (ps.length - 1) = nI (32 * l + (ps.length - 1)) from zma 32 l _]; exact nI_le (by omega) (by omega)) ?_
    refine ev_W.ret rfl rfl ?_
    exact k _ _ P rf_E.rf ag.rf rfl (fun i x hx => hr i x (by rw [show j = ps.length - 1 by omega]; exact hx))
  | succ m ih =>
    intro j t h hj P hn hr k
    obtain ⟨x, hx⟩ : ∃ x, ps[j + 1]? = some x := ⟨_, List.getElem?_eq_getElem (by omega)⟩
    have hx' : shf ps 0 j (j + 1) = some x := by unfold shf; rw [if_neg (by omega)]; exact hx
    have rx : rpk t (32 * l + j + 1) x := hr _ _ hx'
    obtain ⟨b5, b6⟩ := rx.b
    refine ev_W.fn rfl rfl ?_
    refine ev_W.fn rfl rfl ?_
    refine ev_W.fn rfl rfl ?_
    refine ev_W.obj rfl P.2.2.2.1 rfl ?_
    refine ev_W.fn rfl rfl ?_
    refine ev_W.ri 0 P rfl rfl hl rfl ?_
    refine ev_W.fn rfl rfl ?_
    refine ev_W.brF rfl rfl (by rw [hn]; rw [show (32 : Int32) * nI l + nI (ps.length - 1) = nI (32 * l + (ps.length - 1)) from zma 32 l _]; exact nI_ge (by omega) (by omega)) ?_
    refine ev_W.fn rfl rfl ?_
    refine ev_W.obj rfl P.2.2.2.1 rfl ?_
    refine ev_W.fn rfl rfl ?_
    refine ev_W.fn rfl rfl ?_
    refine ev_W.obj rfl P.2.2.2.1 rfl ?_
    refine ev_W.fn rfl rfl ?_
    refine ev_W.fn rfl rfl ?_
    refine ev_W.fn rfl rfl ?_
    refine ev_W.ri 1 P rfl (nI_1 _) (show 32 * l + j + 1 < 192 by omega) rfl ?_
    refine ev_W.si 1 P rfl rfl (show 32 * l + j < 192 by omega) rfl (fun u1 R1 E1 => ?_)
    refine ev_W.fn rfl rfl ?_
    refine ev_W.obj rfl R1.2.2.2.1 rfl ?_
    refine ev_W.fn rfl rfl ?_
    refine ev_W.fn rfl rfl ?_
    refine ev_W.obj rfl R1.2.2.2.1 rfl ?_
    refine ev_W.fn rfl rfl ?_
    refine ev_W.fn rfl rfl ?_
    refine ev_W.fn rfl rfl ?_
    refine ev_W.ri 2 R1 rfl (nI_1 _) (show 32 * l + j + 1 < 192 by omega) rfl ?_
    refine ev_W.si 2 R1 rfl rfl (show 32 * l + j < 192 by omega) rfl (fun u2 R2 E2 => ?_)
    refine ev_W.fn rfl rfl ?_
    refine ev_W.obj rfl R2.2.2.2.1 rfl ?_
    refine ev_W.fn rfl rfl ?_
    refine ev_W.fn rfl rfl ?_
    refine ev_W.obj rfl R2.2.2.2.1 rfl ?_
    refine ev_W.fn rfl rfl ?_
    refine ev_W.fn rfl rfl ?_
    refine ev_W.fn rfl rfl ?_
    refine ev_W.ri 3 R2 rfl (nI_1 _) (show 32 * l + j + 1 < 192 by omega) rfl ?_
    refine ev_W.si 3 R2 rfl rfl (show 32 * l + j < 192 by omega) rfl (fun u3 R3 E3 => ?_)
    refine ev_W.fn rfl rfl ?_
    refine ev_W.obj rfl R3.2.2.2.1 rfl ?_
    refine ev_W.fn rfl rfl ?_
    refine ev_W.fn rfl rfl ?_
    refine ev_W.obj rfl R3.2.2.2.1 rfl ?_
    refine ev_W.fn rfl rfl ?_
    refine ev_W.fn rfl rfl ?_
    refine ev_W.fn rfl rfl ?_
    refine ev_W.ri 4 R3 rfl (nI_1 _) (show 32 * l + j + 1 < 192 by omega) rfl ?_
    refine ev_W.si 4 R3 rfl rfl (show 32 * l + j < 192 by omega) rfl (fun u4 R4 E4 => ?_)
    refine ev_W.fn rfl rfl ?_
    refine ev_W.obj rfl R4.2.2.2.1 rfl ?_
    refine ev_W.fn rfl rfl ?_
    refine ev_W.fn rfl rfl ?_
    refine ev_W.obj rfl R4.2.2.2.1 rfl ?_
    refine ev_W.fn rfl rfl ?_
    refine ev_W.fn rfl rfl ?_
    refine ev_W.fn rfl rfl ?_
    refine ev_W.rz 5 R4 rfl (nI_1 _) (show 32 * l + j + 1 < 192 by omega) rfl ?_
    refine ev_W.sz 5 R4 rfl b5 rfl (show 32 * l + j < 192 by omega) rfl (fun u5 R5 E5 => ?_)
    refine ev_W.fn rfl rfl ?_
    refine ev_W.obj rfl R5.2.2.2.1 rfl ?_
    refine ev_W.fn rfl rfl ?_
    refine ev_W.fn rfl rfl ?_
    refine ev_W.obj rfl R5.2.2.2.1 rfl ?_
    refine ev_W.fn rfl rfl ?_
    refine ev_W.fn rfl rfl ?_
    refine ev_W.fn rfl rfl ?_
    refine ev_W.rz 6 R5 rfl (nI_1 _) (show 32 * l + j + 1 < 192 by omega) rfl ?_
    refine ev_W.sz 6 R5 rfl b6 rfl (show 32 * l + j < 192 by omega) rfl (fun u6 R6 E6 => ?_)
    refine ev_W.fn rfl rfl ?_
    refine ev_W.obj rfl R6.2.2.2.1 rfl ?_
    refine ev_W.fn rfl rfl ?_
    refine ev_W.fn rfl rfl ?_
    refine ev_W.obj rfl R6.2.2.2.1 rfl ?_
    refine ev_W.fn rfl rfl ?_
    refine ev_W.fn rfl rfl ?_
    refine ev_W.fn rfl rfl ?_
    refine ev_W.rl 7 R6 rfl (nI_1 _) (show 32 * l + j + 1 < 192 by omega) rfl ?_
    refine ev_W.sl 7 R6 rfl rfl (show 32 * l + j < 192 by omega) rfl (fun u7 R7 E7 => ?_)
    refine ev_W.fn rfl rfl ?_
    refine ev_W.obj rfl R7.2.2.2.1 rfl ?_
    refine ev_W.fn rfl rfl ?_
    refine ev_W.fn rfl rfl ?_
    refine ev_W.obj rfl R7.2.2.2.1 rfl ?_
    refine ev_W.fn rfl rfl ?_
    refine ev_W.fn rfl rfl ?_
    refine ev_W.fn rfl rfl ?_
    refine ev_W.ri 8 R7 rfl (nI_1 _) (show 32 * l + j + 1 < 192 by omega) rfl ?_
    refine ev_W.si 8 R7 rfl rfl (show 32 * l + j < 192 by omega) rfl (fun u8 R8 E8 => ?_)
    refine ev_W.fn rfl rfl ?_
    refine ev_W.obj rfl R8.2.2.2.1 rfl ?_
    refine ev_W.fn rfl rfl ?_
    refine ev_W.fn rfl rfl ?_
    refine ev_W.obj rfl R8.2.2.2.1 rfl ?_
    refine ev_W.fn rfl rfl ?_
    refine ev_W.fn rfl rfl ?_
    refine ev_W.fn rfl rfl ?_
    refine ev_W.ri 9 R8 rfl (nI_1 _) (show 32 * l + j + 1 < 192 by omega) rfl ?_
    refine ev_W.si 9 R8 rfl rfl (show 32 * l + j < 192 by omega) rfl (fun u9 R9 E9 => ?_)
    refine ev_W.fn rfl rfl ?_
    refine ev_W.obj rfl R9.2.2.2.1 rfl ?_
    refine ev_W.fn rfl rfl ?_
    refine ev_W.fn rfl rfl ?_
    refine ev_W.obj rfl R9.2.2.2.1 rfl ?_
    refine ev_W.fn rfl rfl ?_
    refine ev_W.fn rfl rfl ?_
    refine ev_W.fn rfl rfl ?_
    refine ev_W.rl 10 R9 rfl (nI_1 _) (show 32 * l + j + 1 < 192 by omega) rfl ?_
    refine ev_W.sl 10 R9 rfl rfl (show 32 * l + j < 192 by omega) rfl (fun u10 R10 E10 => ?_)
    refine ev_W.fn rfl rfl ?_
    refine ev_W.obj rfl R10.2.2.2.1 rfl ?_
    refine ev_W.fn rfl rfl ?_
    refine ev_W.fn rfl rfl ?_
    refine ev_W.obj rfl R10.2.2.2.1 rfl ?_
    refine ev_W.fn rfl rfl ?_
    refine ev_W.fn rfl rfl ?_
    refine ev_W.fn rfl rfl ?_
    refine ev_W.ri 11 R10 rfl (nI_1 _) (show 32 * l + j + 1 < 192 by omega) rfl ?_
    refine ev_W.si 11 R10 rfl rfl (show 32 * l + j < 192 by omega) rfl (fun u11 R11 E11 => ?_)
    refine ev_W.fn rfl rfl ?_
    refine ev_W.fn rfl rfl ?_
    have RR' : rf_P z m0 (cpN t (32 * l + j)) _ := R11
    have A := cpN_ag t (32 * l + j)
    have step := ih (j + 1) (cpN t (32 * l + j)) _ (by omega) RR' ((A.i 0 l (by omega)).trans hn) (fun i y hy => ?_) (fun t' h' P' E' A' e' r' => k t' h' P' (rf_E.tr ((E1.tr (E2.tr (E3.tr (E4.tr (E5.tr (E6.tr (E7.tr (E8.tr (E9.tr (E10.tr E11))))))))))) E') (ag.tr (A.mono (fun f i q => by omega)) A') e' r')
    · rw [show nI (32 * l + (j + 1)) = nI (32 * l + j) + 1 from (nI_1 _).symm] at step
      exact step
    · rcases shf_s (Nat.zero_le _) hy with ⟨rfl, hy⟩ | ⟨hne, hy⟩
      · exact (hr _ _ hy).cp
      · exact (hr _ _ hy).cg (fun f h1 h2 => A.1 f _ (by omega))
theorem sp_Z_takeFirst {q : hb_Pk} {ps : List hb_Pk} (R : zR z m0 s p t h) (hl : l < 6) (e0 : sN s l = q :: ps) (k : ∀ t' h', zR z m0 (tN s l ps) q t' h' → rf_E m0 h h' → Q (none, h')) : ev_M (mf_Z_takeFirst z) [.ref m0, .int (nI l)] h Q := by
  have P := R.1
  have h31 := R.2.2.2.1 l hl
  rw [e0] at h31
  have hn := (R.2.1.n l hl).1
  rw [e0] at hn
  have hr := (R.2.1.n l hl).2
  rw [e0] at hr
  have r0 : rpk t (32 * l) q := hr 0 q rfl
  obtain ⟨b5, b6⟩ := r0.b
  refine ev_M.go rfl rfl ?_
  refine ev_W.fn rfl rfl ?_
  refine ev_W.fn rfl rfl ?_
  refine ev_W.fn rfl rfl ?_
  refine ev_W.fn rfl rfl ?_
  refine ev_W.fn rfl rfl ?_
  refine ev_W.fn rfl rfl ?_
  refine ev_W.obj rfl P.2.2.2.1 rfl ?_
  refine ev_W.fn rfl rfl ?_
  refine ev_W.ri 1 P rfl (zm 32 l) (show 32 * l < 192 by omega) rfl ?_
  refine ev_W.sf12 P rfl (fun u1 R1 E1 => ?_)
  refine ev_W.fn rfl rfl ?_
  refine ev_W.fn rfl rfl ?_
  refine ev_W.obj rfl R1.2.2.2.1 rfl ?_
  refine ev_W.fn rfl rfl ?_
  refine ev_W.ri 2 R1 rfl (zm 32 l) (show 32 * l < 192 by omega) rfl ?_
  refine ev_W.sf13 R1 rfl (fun u2 R2 E2 => ?_)
  refine ev_W.fn rfl rfl ?_
  refine ev_W.fn rfl rfl ?_
  refine ev_W.obj rfl R2.2.2.2.1 rfl ?_
  refine ev_W.fn rfl rfl ?_
  refine ev_W.ri 3 R2 rfl (zm 32 l) (show 32 * l < 192 by omega) rfl ?_
  refine ev_W.sf14 R2 rfl (fun u3 R3 E3 => ?_)
  refine ev_W.fn rfl rfl ?_
  refine ev_W.fn rfl rfl ?_
  refine ev_W.obj rfl R3.2.2.2.1 rfl ?_
  refine ev_W.fn rfl rfl ?_
  refine ev_W.ri 4 R3 rfl (zm 32 l) (show 32 * l < 192 by omega) rfl ?_
  refine ev_W.sf15 R3 rfl (fun u4 R4 E4 => ?_)
  refine ev_W.fn rfl rfl ?_
  refine ev_W.fn rfl rfl ?_
  refine ev_W.obj rfl R4.2.2.2.1 rfl ?_
  refine ev_W.fn rfl rfl ?_
  refine ev_W.rz 6 R4 rfl (zm 32 l) (show 32 * l < 192 by omega) rfl ?_
  refine ev_W.sf16 R4 b6 rfl (fun u5 R5 E5 => ?_)
  refine ev_W.fn rfl rfl ?_
  refine ev_W.fn rfl rfl ?_
  refine ev_W.obj rfl R5.2.2.2.1 rfl ?_
  refine ev_W.fn rfl rfl ?_
  refine ev_W.rl 7 R5 rfl (zm 32 l) (show 32 * l < 192 by omega) rfl ?_
  refine ev_W.sf17 R5 rfl (fun u6 R6 E6 => ?_)
  refine ev_W.fn rfl rfl ?_
  refine ev_W.fn rfl rfl ?_
  refine ev_W.obj rfl R6.2.2.2.1 rfl ?_
  refine ev_W.fn rfl rfl ?_
  refine ev_W.ri 8 R6 rfl (zm 32 l) (show 32 * l < 192 by omega) rfl ?_
  refine ev_W.sf18 R6 rfl (fun u7 R7 E7 => ?_)
  refine ev_W.fn rfl rfl ?_
  refine ev_W.fn rfl rfl ?_
  refine ev_W.obj rfl R7.2.2.2.1 rfl ?_
  refine ev_W.fn rfl rfl ?_
  refine ev_W.ri 9 R7 rfl (zm 32 l) (show 32 * l < 192 by omega) rfl ?_
  refine ev_W.sf19 R7 rfl (fun u8 R8 E8 => ?_)
  refine ev_W.fn rfl rfl ?_
  refine ev_W.fn rfl rfl ?_
  refine ev_W.obj rfl R8.2.2.2.1 rfl ?_
  refine ev_W.fn rfl rfl ?_
  refine ev_W.rl 10 R8 rfl (zm 32 l) (show 32 * l < 192 by omega) rfl ?_
  refine ev_W.sf20 R8 rfl (fun u9 R9 E9 => ?_)
  refine ev_W.fn rfl rfl ?_
  refine ev_W.fn rfl rfl ?_
  refine ev_W.obj rfl R9.2.2.2.1 rfl ?_
  refine ev_W.fn rfl rfl ?_
  refine ev_W.ri 11 R9 rfl (zm 32 l) (show 32 * l < 192 by omega) rfl ?_
  refine ev_W.sf21 R9 rfl (fun u10 R10 E10 => ?_)
  refine ev_W.fn rfl rfl ?_
  refine ev_W.obj rfl R10.2.2.2.1 rfl ?_
  refine ev_W.fn rfl rfl ?_
  refine ev_W.fn rfl rfl ?_
  refine ev_W.ri 0 R10 rfl rfl hl rfl ?_
  refine ev_W.fn rfl rfl ?_
  refine ev_W.fn rfl rfl ?_
  refine ev_W.si 0 R10 rfl rfl hl rfl (fun u11 R11 E11 => ?_)
  refine ev_W.fn rfl rfl ?_
  refine ev_W.fn rfl rfl ?_
  have RR' : rf_P z m0 (uI (zrg t (32 * l)) 0 l (t.1 0 l - 1)) _ := R11
  have A0 : ag (WN l) t (uI (zrg t (32 * l)) 0 l (t.1 0 l - 1)) := by
    refine ag.wI ?_ _ (Or.inl ⟨rfl, rfl⟩)
    exact ((((((((((ag.rf.wS _ (by decide)).wS _ (by decide)).wS _ (by decide)).wS _ (by decide)).wS _ (by decide)).wK _ _).wS _ (by decide)).wS _ (by decide)).wK _ _).wS _ (by decide))
  have step := sp_ztf_loop (ps := q :: ps) (Q := Q) hl h31 ps.length 0 _ _ (by simp) RR' (by rw [uI_1, if_pos ⟨rfl, rfl⟩, hn]; exact nI_p1 (by simp)) (fun i x hx => ?_) (fun t' h' P' E' A' e' r' => ?_)
  · rw [show nI (32 * l + 0) = 32 * nI l from (zm 32 l).symm] at step
    exact step
  · rw [shf_0] at hx
    exact (hr i x hx).cg (fun f h1 h2 => ⟨by rw [uI_1, if_neg (by omega)], rfl⟩)
  · have A2 : ag (WN l) t t' := A0.tr (A'.mono (fun f j w => by unfold WN; omega))
    refine k t' h' ⟨P', ?_, ?_, R.2.2.2.dN l (by simp at h31; omega)⟩ (rf_E.tr ((E1.tr (E2.tr (E3.tr (E4.tr (E5.tr (E6.tr (E7.tr (E8.tr (E9.tr (E10.tr E11))))))))))) E')
    · refine R.2.1.line R.2.2.2 A2 (by rw [e']; rfl) ⟨?_, fun i x hx => r' i x ?_⟩
      · rw [A'.i 0 l (by omega), uI_1, if_pos ⟨rfl, rfl⟩, hn, nI_p1 (by simp)]; rfl
      · exact shf_end (k := 0) (by simp) hx
    · have g := r0.rg
      unfold rg at g ⊢
      rw [e']; exact g
end ZT
