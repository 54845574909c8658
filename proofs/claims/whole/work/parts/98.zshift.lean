/-! The reference shifts its rows: store, subscriptions, here, kept (laid by wip/whole/p98.py). -/
def cpP (t : rf_S) (q : Nat) : rf_S := uI (uI (uI (uI (uI (uL (t) 24 q (t.2.1 24 (q + 1))) 25 q (t.1 25 (q + 1))) 26 q (t.1 26 (q + 1))) 27 q (t.1 27 (q + 1))) 28 q (t.1 28 (q + 1))) 29 q (t.1 29 (q + 1))
theorem cpP_ag (t : rf_S) (q : Nat) : ag (fun f j => 24 ≤ f ∧ f < 30 ∧ j = q) t (cpP t q) := by
  have W : ∀ f, 24 ≤ f → f < 30 → (24 ≤ f ∧ f < 30 ∧ q = q) := fun f a b => ⟨a, b, rfl⟩
  exact ((((((ag.rf.wL _ (W 24 (by decide) (by decide))).wI _ (W 25 (by decide) (by decide))).wI _ (W 26 (by decide) (by decide))).wI _ (W 27 (by decide) (by decide))).wI _ (W 28 (by decide) (by decide))).wI _ (W 29 (by decide) (by decide)))
theorem cpP_24 (t : rf_S) (q : Nat) : (cpP t q).2.1 24 q = t.2.1 24 (q + 1) := by simp [cpP, uI_1, uL_1, uL_0, uI_2]
theorem cpP_25 (t : rf_S) (q : Nat) : (cpP t q).1 25 q = t.1 25 (q + 1) := by simp [cpP, uI_1, uL_1, uL_0, uI_2]
theorem cpP_26 (t : rf_S) (q : Nat) : (cpP t q).1 26 q = t.1 26 (q + 1) := by simp [cpP, uI_1, uL_1, uL_0, uI_2]
theorem cpP_27 (t : rf_S) (q : Nat) : (cpP t q).1 27 q = t.1 27 (q + 1) := by simp [cpP, uI_1, uL_1, uL_0, uI_2]
theorem cpP_28 (t : rf_S) (q : Nat) : (cpP t q).1 28 q = t.1 28 (q + 1) := by simp [cpP, uI_1, uL_1, uL_0, uI_2]
theorem cpP_29 (t : rf_S) (q : Nat) : (cpP t q).1 29 q = t.1 29 (q + 1) := by simp [cpP, uI_1, uL_1, uL_0, uI_2]
def cpB (t : rf_S) (q : Nat) : rf_S := uI (uI (uL (t) 44 q (t.2.1 44 (q + 1))) 45 q (t.1 45 (q + 1))) 46 q (t.1 46 (q + 1))
theorem cpB_ag (t : rf_S) (q : Nat) : ag (fun f j => 44 ≤ f ∧ f < 47 ∧ j = q) t (cpB t q) := by
  have W : ∀ f, 44 ≤ f → f < 47 → (44 ≤ f ∧ f < 47 ∧ q = q) := fun f a b => ⟨a, b, rfl⟩
  exact (((ag.rf.wL _ (W 44 (by decide) (by decide))).wI _ (W 45 (by decide) (by decide))).wI _ (W 46 (by decide) (by decide)))
theorem cpB_44 (t : rf_S) (q : Nat) : (cpB t q).2.1 44 q = t.2.1 44 (q + 1) := by simp [cpB, uI_1, uL_1, uL_0, uI_2]
theorem cpB_45 (t : rf_S) (q : Nat) : (cpB t q).1 45 q = t.1 45 (q + 1) := by simp [cpB, uI_1, uL_1, uL_0, uI_2]
theorem cpB_46 (t : rf_S) (q : Nat) : (cpB t q).1 46 q = t.1 46 (q + 1) := by simp [cpB, uI_1, uL_1, uL_0, uI_2]
def cpU (t : rf_S) (q : Nat) : rf_S := uI (uI (uI (uI (uI (uL (t) 49 q (t.2.1 49 (q + 1))) 50 q (t.1 50 (q + 1))) 51 q (t.1 51 (q + 1))) 52 q (t.1 52 (q + 1))) 53 q (t.1 53 (q + 1))) 54 q (t.1 54 (q + 1))
theorem cpU_ag (t : rf_S) (q : Nat) : ag (fun f j => 49 ≤ f ∧ f < 55 ∧ j = q) t (cpU t q) := by
  have W : ∀ f, 49 ≤ f → f < 55 → (49 ≤ f ∧ f < 55 ∧ q = q) := fun f a b => ⟨a, b, rfl⟩
  exact ((((((ag.rf.wL _ (W 49 (by decide) (by decide))).wI _ (W 50 (by decide) (by decide))).wI _ (W 51 (by decide) (by decide))).wI _ (W 52 (by decide) (by decide))).wI _ (W 53 (by decide) (by decide))).wI _ (W 54 (by decide) (by decide)))
theorem cpU_49 (t : rf_S) (q : Nat) : (cpU t q).2.1 49 q = t.2.1 49 (q + 1) := by simp [cpU, uI_1, uL_1, uL_0, uI_2]
theorem cpU_50 (t : rf_S) (q : Nat) : (cpU t q).1 50 q = t.1 50 (q + 1) := by simp [cpU, uI_1, uL_1, uL_0, uI_2]
theorem cpU_51 (t : rf_S) (q : Nat) : (cpU t q).1 51 q = t.1 51 (q + 1) := by simp [cpU, uI_1, uL_1, uL_0, uI_2]
theorem cpU_52 (t : rf_S) (q : Nat) : (cpU t q).1 52 q = t.1 52 (q + 1) := by simp [cpU, uI_1, uL_1, uL_0, uI_2]
theorem cpU_53 (t : rf_S) (q : Nat) : (cpU t q).1 53 q = t.1 53 (q + 1) := by simp [cpU, uI_1, uL_1, uL_0, uI_2]
theorem cpU_54 (t : rf_S) (q : Nat) : (cpU t q).1 54 q = t.1 54 (q + 1) := by simp [cpU, uI_1, uL_1, uL_0, uI_2]
def cpK (t : rf_S) (q : Nat) : rf_S := uI (uI (uL (t) 59 q (t.2.1 59 (q + 1))) 60 q (t.1 60 (q + 1))) 61 q (t.1 61 (q + 1))
theorem cpK_ag (t : rf_S) (q : Nat) : ag (fun f j => 59 ≤ f ∧ f < 62 ∧ j = q) t (cpK t q) := by
  have W : ∀ f, 59 ≤ f → f < 62 → (59 ≤ f ∧ f < 62 ∧ q = q) := fun f a b => ⟨a, b, rfl⟩
  exact (((ag.rf.wL _ (W 59 (by decide) (by decide))).wI _ (W 60 (by decide) (by decide))).wI _ (W 61 (by decide) (by decide)))
theorem cpK_59 (t : rf_S) (q : Nat) : (cpK t q).2.1 59 q = t.2.1 59 (q + 1) := by simp [cpK, uI_1, uL_1, uL_0, uI_2]
theorem cpK_60 (t : rf_S) (q : Nat) : (cpK t q).1 60 q = t.1 60 (q + 1) := by simp [cpK, uI_1, uL_1, uL_0, uI_2]
theorem cpK_61 (t : rf_S) (q : Nat) : (cpK t q).1 61 q = t.1 61 (q + 1) := by simp [cpK, uI_1, uL_1, uL_0, uI_2]
theorem rstP.cp {t : rf_S} {q : Nat} {x : hb_Pa} (r : rstP t (q + 1) x) : rstP (cpP t q) q x := ⟨(cpP_24 t q).trans r.1, (cpP_25 t q).trans r.2.1, (cpP_26 t q).trans r.2.2.1, (cpP_27 t q).trans r.2.2.2.1, (cpP_28 t q).trans r.2.2.2.2.1, fun e => (cpP_29 t q).trans (r.2.2.2.2.2 e)⟩
theorem rsbP.cp {t : rf_S} {q : Nat} {x : hb_Sb} (r : rsbP t (q + 1) x) : rsbP (cpB t q) q x := ⟨(cpB_44 t q).trans r.1, (cpB_45 t q).trans r.2.1, (cpB_46 t q).trans r.2.2⟩
def rhx (t : rf_S) (i : Nat) : hb_Pa ⊕ hb_Ms → Prop
  | .inl x => rhm t i x.1 ∧ t.1 53 i = x.2.1 ∧ t.1 54 i = x.2.2
  | .inr m => rhm t i m
theorem rhm.cp {t : rf_S} {q : Nat} {x : hb_Ms} (r : rhm t (q + 1) x) : rhm (cpU t q) q x := ⟨(cpU_49 t q).trans r.1, (cpU_50 t q).trans r.2.1, (cpU_51 t q).trans r.2.2.1, (cpU_52 t q).trans r.2.2.2⟩
theorem rhx.cp {t : rf_S} {q : Nat} {x : hb_Pa ⊕ hb_Ms} (r : rhx t (q + 1) x) : rhx (cpU t q) q x := by
  cases x with
  | inl x => exact ⟨r.1.cp, (cpU_53 t q).trans r.2.1, (cpU_54 t q).trans r.2.2⟩
  | inr m => exact rhm.cp r
theorem rhx.cg {t t' : rf_S} {i : Nat} {x : hb_Pa ⊕ hb_Ms} (h : ∀ f, 49 ≤ f → f < 55 → t'.1 f i = t.1 f i ∧ t'.2.1 f i = t.2.1 f i) (r : rhx t i x) : rhx t' i x := by
  cases x with
  | inl x => exact ⟨r.1.cg h, (h 53 (by decide) (by decide)).1.trans r.2.1, (h 54 (by decide) (by decide)).1.trans r.2.2⟩
  | inr m => exact rhm.cg h r
theorem rhx.b {t : rf_S} {i : Nat} {x : hb_Pa ⊕ hb_Ms} (r : rhx t i x) : t.1 52 i = 0 ∨ t.1 52 i = 1 := by
  cases x with
  | inl x => rw [r.1.2.2.2]; exact zb_01 _
  | inr m => rw [r.2.2.2]; exact zb_01 _
def rkq (t : rf_S) (i : Nat) (m : hb_Ms) : Prop := t.2.1 59 i = tz_pl m.1 ∧ t.1 60 i = m.2.1 ∧ t.1 61 i = m.2.2.1
theorem rkq.cp {t : rf_S} {q : Nat} {x : hb_Ms} (r : rkq t (q + 1) x) : rkq (cpK t q) q x := ⟨(cpK_59 t q).trans r.1, (cpK_60 t q).trans r.2.1, (cpK_61 t q).trans r.2.2⟩
theorem rkq.cg {t t' : rf_S} {i : Nat} {x : hb_Ms} (h : ∀ f, 59 ≤ f → f < 62 → t'.1 f i = t.1 f i ∧ t'.2.1 f i = t.2.1 f i) (r : rkq t i x) : rkq t' i x := ⟨(h 59 (by decide) (by decide)).2.trans r.1, (h 60 (by decide) (by decide)).1.trans r.2.1, (h 61 (by decide) (by decide)).1.trans r.2.2⟩
section ZH
variable {z : Nat × Nat} {m0 : Nat} {s : hb_S} {p : hb_Pk} {t : rf_S} {h : ev_H} {Q : ev_O → Prop} {c l : Nat}
theorem sp_zfg_loop {xs : List hb_Pa} (hc : c < 3) (hs : xs.length ≤ 4) {k0 : Nat} : ∀ (m j : Nat) (t : rf_S) (h : ev_H), k0 ≤ j → j + m + 1 = xs.length → rf_P z m0 t h → t.1 23 c = nI (xs.length - 1) → (∀ i x, shf xs k0 j i = some x → rstP t (4 * c + i) x) → (∀ t' h' (y : Option Value), rf_P z m0 t' h' → rf_E m0 h h' → ag (fun f i => 24 ≤ f ∧ f < 30 ∧ 4 * c ≤ i ∧ i < 4 * c + 4) t t' → t'.2.2 = t.2.2 → (∀ i x, shf xs k0 (xs.length - 1) i = some x → rstP t' (4 * c + i) x) → ev_W (mk_Z_forget z) (120, [some (.ref m0), some (.int (nI c)), some (.int (nI k0)), y], [], h') Q) → ev_W (mk_Z_forget z) (16, [some (.ref m0), some (.int (nI c)), some (.int (nI k0)), some (.int (nI (4 * c + j)))], [], h) Q := by
  intro m
  induction m with
  | zero =>
    intro j t h hk hj P hn hr k
    refine ev_W.fn rfl rfl ?_
    refine ev_W.fn rfl rfl ?_
    refine ev_W.fn rfl rfl ?_
    refine ev_W.fn rfl rfl ?_
    refine ev_W.fn rfl rfl ?_
    refine ev_W.obj rfl P.2.2.2.1 rfl ?_
    refine ev_W.fn rfl rfl ?_
    refine ev_W.ri 23 P rfl rfl hc rfl ?_
    refine ev_W.fn rfl rfl ?_
    refine ev_W.brT rfl rfl (by rw [hn, show (4 : Int32) * nI c + nI (xs.length - 1) = nI (4 * c + (xs.length - 1)) from zma 4 c _]; exact nI_le (by omega) (by omega)) ?_
    exact k _ _ _ P rf_E.rf ag.rf rfl (fun i x hx => hr i x (by rw [show j = xs.length - 1 by omega]; exact hx))
  | succ m ih =>
    intro j t h hk hj P hn hr k
    obtain ⟨x, hx⟩ : ∃ x, xs[j + 1]? = some x := ⟨_, List.getElem?_eq_getElem (by omega)⟩
    have hx' : shf xs k0 j (j + 1) = some x := by unfold shf; rw [if_neg (by omega)]; exact hx
    have rx : rstP t (4 * c + j + 1) x := hr _ _ hx'
    have bb : t.1 27 (4 * c + j + 1) = 0 ∨ t.1 27 (4 * c + j + 1) = 1 := by rw [rx.2.2.2.1]; exact zb_01 _
    refine ev_W.fn rfl rfl ?_
    refine ev_W.fn rfl rfl ?_
    refine ev_W.fn rfl rfl ?_
    refine ev_W.fn rfl rfl ?_
    refine ev_W.fn rfl rfl ?_
    refine ev_W.obj rfl P.2.2.2.1 rfl ?_
    refine ev_W.fn rfl rfl ?_
    refine ev_W.ri 23 P rfl rfl hc rfl ?_
    refine ev_W.fn rfl rfl ?_
    refine ev_W.brF rfl rfl (by rw [hn, show (4 : Int32) * nI c + nI (xs.length - 1) = nI (4 * c + (xs.length - 1)) from zma 4 c _]; exact nI_ge (by omega) (by omega)) ?_
    refine ev_W.fn rfl rfl ?_
    refine ev_W.obj rfl P.2.2.2.1 rfl ?_
    refine ev_W.fn rfl rfl ?_
    refine ev_W.fn rfl rfl ?_
    refine ev_W.obj rfl P.2.2.2.1 rfl ?_
    refine ev_W.fn rfl rfl ?_
    refine ev_W.fn rfl rfl ?_
    refine ev_W.fn rfl rfl ?_
    refine ev_W.rl 24 P rfl (nI_1 _) (show 4 * c + j + 1 < 12 by omega) rfl ?_
    refine ev_W.sl 24 P rfl rfl (show 4 * c + j < 12 by omega) rfl (fun u1 R1 E1 => ?_)
    refine ev_W.fn rfl rfl ?_
    refine ev_W.obj rfl R1.2.2.2.1 rfl ?_
    refine ev_W.fn rfl rfl ?_
    refine ev_W.fn rfl rfl ?_
    refine ev_W.obj rfl R1.2.2.2.1 rfl ?_
    refine ev_W.fn rfl rfl ?_
    refine ev_W.fn rfl rfl ?_
    refine ev_W.fn rfl rfl ?_
    refine ev_W.ri 25 R1 rfl (nI_1 _) (show 4 * c + j + 1 < 12 by omega) rfl ?_
    refine ev_W.si 25 R1 rfl rfl (show 4 * c + j < 12 by omega) rfl (fun u2 R2 E2 => ?_)
    refine ev_W.fn rfl rfl ?_
    refine ev_W.obj rfl R2.2.2.2.1 rfl ?_
    refine ev_W.fn rfl rfl ?_
    refine ev_W.fn rfl rfl ?_
    refine ev_W.obj rfl R2.2.2.2.1 rfl ?_
    refine ev_W.fn rfl rfl ?_
    refine ev_W.fn rfl rfl ?_
    refine ev_W.fn rfl rfl ?_
    refine ev_W.ri 26 R2 rfl (nI_1 _) (show 4 * c + j + 1 < 12 by omega) rfl ?_
    refine ev_W.si 26 R2 rfl rfl (show 4 * c + j < 12 by omega) rfl (fun u3 R3 E3 => ?_)
    refine ev_W.fn rfl rfl ?_
    refine ev_W.obj rfl R3.2.2.2.1 rfl ?_
    refine ev_W.fn rfl rfl ?_
    refine ev_W.fn rfl rfl ?_
    refine ev_W.obj rfl R3.2.2.2.1 rfl ?_
    refine ev_W.fn rfl rfl ?_
    refine ev_W.fn rfl rfl ?_
    refine ev_W.fn rfl rfl ?_
    refine ev_W.rz 27 R3 rfl (nI_1 _) (show 4 * c + j + 1 < 12 by omega) rfl ?_
    refine ev_W.sz 27 R3 rfl bb rfl (show 4 * c + j < 12 by omega) rfl (fun u4 R4 E4 => ?_)
    refine ev_W.fn rfl rfl ?_
    refine ev_W.obj rfl R4.2.2.2.1 rfl ?_
    refine ev_W.fn rfl rfl ?_
    refine ev_W.fn rfl rfl ?_
    refine ev_W.obj rfl R4.2.2.2.1 rfl ?_
    refine ev_W.fn rfl rfl ?_
    refine ev_W.fn rfl rfl ?_
    refine ev_W.fn rfl rfl ?_
    refine ev_W.ri 28 R4 rfl (nI_1 _) (show 4 * c + j + 1 < 12 by omega) rfl ?_
    refine ev_W.si 28 R4 rfl rfl (show 4 * c + j < 12 by omega) rfl (fun u5 R5 E5 => ?_)
    refine ev_W.fn rfl rfl ?_
    refine ev_W.obj rfl R5.2.2.2.1 rfl ?_
    refine ev_W.fn rfl rfl ?_
    refine ev_W.fn rfl rfl ?_
    refine ev_W.obj rfl R5.2.2.2.1 rfl ?_
    refine ev_W.fn rfl rfl ?_
    refine ev_W.fn rfl rfl ?_
    refine ev_W.fn rfl rfl ?_
    refine ev_W.ri 29 R5 rfl (nI_1 _) (show 4 * c + j + 1 < 12 by omega) rfl ?_
    refine ev_W.si 29 R5 rfl rfl (show 4 * c + j < 12 by omega) rfl (fun u6 R6 E6 => ?_)
    refine ev_W.fn rfl rfl ?_
    refine ev_W.fn rfl rfl ?_
    have RR' : rf_P z m0 (cpP t (4 * c + j)) _ := R6
    have A := cpP_ag t (4 * c + j)
    have step := ih (j + 1) (cpP t (4 * c + j)) _ (by omega) (by omega) RR' ((A.i 23 c (by omega)).trans hn) (fun i y hy => ?_) (fun t' h' y P' E' A' e' r' => k t' h' y P' (rf_E.tr ((E1.tr (E2.tr (E3.tr (E4.tr (E5.tr E6)))))) E') (ag.tr (A.mono (fun f i q => by omega)) A') e' r')
    · rw [show nI (4 * c + (j + 1)) = nI (4 * c + j) + 1 from (nI_1 _).symm] at step
      exact step
    · rcases shf_s hk hy with ⟨rfl, hy⟩ | ⟨hne, hy⟩
      · exact (hr _ _ hy).cp
      · exact (hr _ _ hy).cg (fun f h1 h2 => A.1 f _ (by omega))
theorem sp_zun_loop {xs : List hb_Sb} (hc : c < 3) (hs : xs.length ≤ 4) {k0 : Nat} : ∀ (m j : Nat) (t : rf_S) (h : ev_H), k0 ≤ j → j + m + 1 = xs.length → rf_P z m0 t h → t.1 43 c = nI (xs.length - 1) → (∀ i x, shf xs k0 j i = some x → rsbP t (4 * c + i) x) → (∀ t' h' (y : Option Value), rf_P z m0 t' h' → rf_E m0 h h' → ag (fun f i => 44 ≤ f ∧ f < 47 ∧ 4 * c ≤ i ∧ i < 4 * c + 4) t t' → t'.2.2 = t.2.2 → (∀ i x, shf xs k0 (xs.length - 1) i = some x → rsbP t' (4 * c + i) x) → ev_W (mk_Z_unsubscribed z) (88, [some (.ref m0), some (.int (nI c)), some (.int (nI k0)), y], [], h') Q) → ev_W (mk_Z_unsubscribed z) (26, [some (.ref m0), some (.int (nI c)), some (.int (nI k0)), some (.int (nI (4 * c + j)))], [], h) Q := by
  intro m
  induction m with
  | zero =>
    intro j t h hk hj P hn hr k
    refine ev_W.fn rfl rfl ?_
    refine ev_W.fn rfl rfl ?_
    refine ev_W.fn rfl rfl ?_
    refine ev_W.fn rfl rfl ?_
    refine ev_W.fn rfl rfl ?_
    refine ev_W.obj rfl P.2.2.2.1 rfl ?_
    refine ev_W.fn rfl rfl ?_
    refine ev_W.ri 43 P rfl rfl hc rfl ?_
    refine ev_W.fn rfl rfl ?_
    refine ev_W.brT rfl rfl (by rw [hn, show (4 : Int32) * nI c + nI (xs.length - 1) = nI (4 * c + (xs.length - 1)) from zma 4 c _]; exact nI_le (by omega) (by omega)) ?_
    exact k _ _ _ P rf_E.rf ag.rf rfl (fun i x hx => hr i x (by rw [show j = xs.length - 1 by omega]; exact hx))
  | succ m ih =>
    intro j t h hk hj P hn hr k
    obtain ⟨x, hx⟩ : ∃ x, xs[j + 1]? = some x := ⟨_, List.getElem?_eq_getElem (by omega)⟩
    have hx' : shf xs k0 j (j + 1) = some x := by unfold shf; rw [if_neg (by omega)]; exact hx
    have rx : rsbP t (4 * c + j + 1) x := hr _ _ hx'
    have bb : t.1 46 (4 * c + j + 1) = 0 ∨ t.1 46 (4 * c + j + 1) = 1 := by rw [rx.2.2]; exact zb_01 _
    refine ev_W.fn rfl rfl ?_
    refine ev_W.fn rfl rfl ?_
    refine ev_W.fn rfl rfl ?_
    refine ev_W.fn rfl rfl ?_
    refine ev_W.fn rfl rfl ?_
    refine ev_W.obj rfl P.2.2.2.1 rfl ?_
    refine ev_W.fn rfl rfl ?_
    refine ev_W.ri 43 P rfl rfl hc rfl ?_
    refine ev_W.fn rfl rfl ?_
    refine ev_W.brF rfl rfl (by rw [hn, show (4 : Int32) * nI c + nI (xs.length - 1) = nI (4 * c + (xs.length - 1)) from zma 4 c _]; exact nI_ge (by omega) (by omega)) ?_
    refine ev_W.fn rfl rfl ?_
    refine ev_W.obj rfl P.2.2.2.1 rfl ?_
    refine ev_W.fn rfl rfl ?_
    refine ev_W.fn rfl rfl ?_
    refine ev_W.obj rfl P.2.2.2.1 rfl ?_
    refine ev_W.fn rfl rfl ?_
    refine ev_W.fn rfl rfl ?_
    refine ev_W.fn rfl rfl ?_
    refine ev_W.rl 44 P rfl (nI_1 _) (show 4 * c + j + 1 < 12 by omega) rfl ?_
    refine ev_W.sl 44 P rfl rfl (show 4 * c + j < 12 by omega) rfl (fun u1 R1 E1 => ?_)
    refine ev_W.fn rfl rfl ?_
    refine ev_W.obj rfl R1.2.2.2.1 rfl ?_
    refine ev_W.fn rfl rfl ?_
    refine ev_W.fn rfl rfl ?_
    refine ev_W.obj rfl R1.2.2.2.1 rfl ?_
    refine ev_W.fn rfl rfl ?_
    refine ev_W.fn rfl rfl ?_
    refine ev_W.fn rfl rfl ?_
    refine ev_W.ri 45 R1 rfl (nI_1 _) (show 4 * c + j + 1 < 12 by omega) rfl ?_
    refine ev_W.si 45 R1 rfl rfl (show 4 * c + j < 12 by omega) rfl (fun u2 R2 E2 => ?_)
    refine ev_W.fn rfl rfl ?_
    refine ev_W.obj rfl R2.2.2.2.1 rfl ?_
    refine ev_W.fn rfl rfl ?_
    refine ev_W.fn rfl rfl ?_
    refine ev_W.obj rfl R2.2.2.2.1 rfl ?_
    refine ev_W.fn rfl rfl ?_
    refine ev_W.fn rfl rfl ?_
    refine ev_W.fn rfl rfl ?_
    refine ev_W.rz 46 R2 rfl (nI_1 _) (show 4 * c + j + 1 < 12 by omega) rfl ?_
    refine ev_W.sz 46 R2 rfl bb rfl (show 4 * c + j < 12 by omega) rfl (fun u3 R3 E3 => ?_)
    refine ev_W.fn rfl rfl ?_
    refine ev_W.fn rfl rfl ?_
    have RR' : rf_P z m0 (cpB t (4 * c + j)) _ := R3
    have A := cpB_ag t (4 * c + j)
    have step := ih (j + 1) (cpB t (4 * c + j)) _ (by omega) (by omega) RR' ((A.i 43 c (by omega)).trans hn) (fun i y hy => ?_) (fun t' h' y P' E' A' e' r' => k t' h' y P' (rf_E.tr ((E1.tr (E2.tr E3))) E') (ag.tr (A.mono (fun f i q => by omega)) A') e' r')
    · rw [show nI (4 * c + (j + 1)) = nI (4 * c + j) + 1 from (nI_1 _).symm] at step
      exact step
    · rcases shf_s hk hy with ⟨rfl, hy⟩ | ⟨hne, hy⟩
      · exact (hr _ _ hy).cp
      · exact (hr _ _ hy).cg (fun f h1 h2 => A.1 f _ (by omega))
theorem sp_zdo_loop {xs : List (hb_Pa ⊕ hb_Ms)} (hc : c < 3) (hs : xs.length ≤ 8) {k0 : Nat} : ∀ (m j : Nat) (t : rf_S) (h : ev_H), k0 ≤ j → j + m + 1 = xs.length → rf_P z m0 t h → (∃ a b, t.1 47 c = nI a ∧ t.1 48 c = nI b ∧ a + b = xs.length - 1) → (∀ i x, shf xs k0 j i = some x → rhx t (8 * c + i) x) → (∀ t' h' (y : Option Value), rf_P z m0 t' h' → rf_E m0 h h' → ag (fun f i => 49 ≤ f ∧ f < 55 ∧ 8 * c ≤ i ∧ i < 8 * c + 8) t t' → t'.2.2 = t.2.2 → (∀ i x, shf xs k0 (xs.length - 1) i = some x → rhx t' (8 * c + i) x) → ev_W (mk_Z_done z) (129, [some (.ref m0), some (.int (nI c)), some (.int (nI k0)), y], [], h') Q) → ev_W (mk_Z_done z) (17, [some (.ref m0), some (.int (nI c)), some (.int (nI k0)), some (.int (nI (8 * c + j)))], [], h) Q := by
  intro m
  induction m with
  | zero =>
    intro j t h hk hj P hn hr k
    refine ev_W.fn rfl rfl ?_
    refine ev_W.fn rfl rfl ?_
    refine ev_W.fn rfl rfl ?_
    refine ev_W.fn rfl rfl ?_
    refine ev_W.fn rfl rfl ?_
    refine ev_W.obj rfl P.2.2.2.1 rfl ?_
    refine ev_W.fn rfl rfl ?_
    refine ev_W.ri 47 P rfl rfl hc rfl ?_
    refine ev_W.fn rfl rfl ?_
    refine ev_W.fn rfl rfl ?_
    refine ev_W.obj rfl P.2.2.2.1 rfl ?_
    refine ev_W.fn rfl rfl ?_
    refine ev_W.ri 48 P rfl rfl hc rfl ?_
    refine ev_W.fn rfl rfl ?_
    refine ev_W.brT rfl rfl (by obtain ⟨a, b, ha, hb, hab⟩ := hn; rw [ha, hb, show (8 : Int32) * nI c + nI a + nI b = nI (8 * c + a + b) from zmb 8 c _ _]; exact nI_le (by omega) (by omega)) ?_
    exact k _ _ _ P rf_E.rf ag.rf rfl (fun i x hx => hr i x (by rw [show j = xs.length - 1 by omega]; exact hx))
  | succ m ih =>
    intro j t h hk hj P hn hr k
    obtain ⟨x, hx⟩ : ∃ x, xs[j + 1]? = some x := ⟨_, List.getElem?_eq_getElem (by omega)⟩
    have hx' : shf xs k0 j (j + 1) = some x := by unfold shf; rw [if_neg (by omega)]; exact hx
    have rx : rhx t (8 * c + j + 1) x := hr _ _ hx'
    have bb := rx.b
    refine ev_W.fn rfl rfl ?_
    refine ev_W.fn rfl rfl ?_
    refine ev_W.fn rfl rfl ?_
    refine ev_W.fn rfl rfl ?_
    refine ev_W.fn rfl rfl ?_
    refine ev_W.obj rfl P.2.2.2.1 rfl ?_
    refine ev_W.fn rfl rfl ?_
    refine ev_W.ri 47 P rfl rfl hc rfl ?_
    refine ev_W.fn rfl rfl ?_
    refine ev_W.fn rfl rfl ?_
    refine ev_W.obj rfl P.2.2.2.1 rfl ?_
    refine ev_W.fn rfl rfl ?_
    refine ev_W.ri 48 P rfl rfl hc rfl ?_
    refine ev_W.fn rfl rfl ?_
    refine ev_W.brF rfl rfl (by obtain ⟨a, b, ha, hb, hab⟩ := hn; rw [ha, hb, show (8 : Int32) * nI c + nI a + nI b = nI (8 * c + a + b) from zmb 8 c _ _]; exact nI_ge (by omega) (by omega)) ?_
    refine ev_W.fn rfl rfl ?_
    refine ev_W.obj rfl P.2.2.2.1 rfl ?_
    refine ev_W.fn rfl rfl ?_
    refine ev_W.fn rfl rfl ?_
    refine ev_W.obj rfl P.2.2.2.1 rfl ?_
    refine ev_W.fn rfl rfl ?_
    refine ev_W.fn rfl rfl ?_
    refine ev_W.fn rfl rfl ?_
    refine ev_W.rl 49 P rfl (nI_1 _) (show 8 * c + j + 1 < 24 by omega) rfl ?_
    refine ev_W.sl 49 P rfl rfl (show 8 * c + j < 24 by omega) rfl (fun u1 R1 E1 => ?_)
    refine ev_W.fn rfl rfl ?_
    refine ev_W.obj rfl R1.2.2.2.1 rfl ?_
    refine ev_W.fn rfl rfl ?_
    refine ev_W.fn rfl rfl ?_
    refine ev_W.obj rfl R1.2.2.2.1 rfl ?_
    refine ev_W.fn rfl rfl ?_
    refine ev_W.fn rfl rfl ?_
    refine ev_W.fn rfl rfl ?_
    refine ev_W.ri 50 R1 rfl (nI_1 _) (show 8 * c + j + 1 < 24 by omega) rfl ?_
    refine ev_W.si 50 R1 rfl rfl (show 8 * c + j < 24 by omega) rfl (fun u2 R2 E2 => ?_)
    refine ev_W.fn rfl rfl ?_
    refine ev_W.obj rfl R2.2.2.2.1 rfl ?_
    refine ev_W.fn rfl rfl ?_
    refine ev_W.fn rfl rfl ?_
    refine ev_W.obj rfl R2.2.2.2.1 rfl ?_
    refine ev_W.fn rfl rfl ?_
    refine ev_W.fn rfl rfl ?_
    refine ev_W.fn rfl rfl ?_
    refine ev_W.ri 51 R2 rfl (nI_1 _) (show 8 * c + j + 1 < 24 by omega) rfl ?_
    refine ev_W.si 51 R2 rfl rfl (show 8 * c + j < 24 by omega) rfl (fun u3 R3 E3 => ?_)
    refine ev_W.fn rfl rfl ?_
    refine ev_W.obj rfl R3.2.2.2.1 rfl ?_
    refine ev_W.fn rfl rfl ?_
    refine ev_W.fn rfl rfl ?_
    refine ev_W.obj rfl R3.2.2.2.1 rfl ?_
    refine ev_W.fn rfl rfl ?_
    refine ev_W.fn rfl rfl ?_
    refine ev_W.fn rfl rfl ?_
    refine ev_W.rz 52 R3 rfl (nI_1 _) (show 8 * c + j + 1 < 24 by omega) rfl ?_
    refine ev_W.sz 52 R3 rfl bb rfl (show 8 * c + j < 24 by omega) rfl (fun u4 R4 E4 => ?_)
    refine ev_W.fn rfl rfl ?_
    refine ev_W.obj rfl R4.2.2.2.1 rfl ?_
    refine ev_W.fn rfl rfl ?_
    refine ev_W.fn rfl rfl ?_
    refine ev_W.obj rfl R4.2.2.2.1 rfl ?_
    refine ev_W.fn rfl rfl ?_
    refine ev_W.fn rfl rfl ?_
    refine ev_W.fn rfl rfl ?_
    refine ev_W.ri 53 R4 rfl (nI_1 _) (show 8 * c + j + 1 < 24 by omega) rfl ?_
    refine ev_W.si 53 R4 rfl rfl (show 8 * c + j < 24 by omega) rfl (fun u5 R5 E5 => ?_)
    refine ev_W.fn rfl rfl ?_
    refine ev_W.obj rfl R5.2.2.2.1 rfl ?_
    refine ev_W.fn rfl rfl ?_
    refine ev_W.fn rfl rfl ?_
    refine ev_W.obj rfl R5.2.2.2.1 rfl ?_
    refine ev_W.fn rfl rfl ?_
    refine ev_W.fn rfl rfl ?_
    refine ev_W.fn rfl rfl ?_
    refine ev_W.ri 54 R5 rfl (nI_1 _) (show 8 * c + j + 1 < 24 by omega) rfl ?_
    refine ev_W.si 54 R5 rfl rfl (show 8 * c + j < 24 by omega) rfl (fun u6 R6 E6 => ?_)
    refine ev_W.fn rfl rfl ?_
    refine ev_W.fn rfl rfl ?_
    have RR' : rf_P z m0 (cpU t (8 * c + j)) _ := R6
    have A := cpU_ag t (8 * c + j)
    have step := ih (j + 1) (cpU t (8 * c + j)) _ (by omega) (by omega) RR' (let ⟨a, b, ha, hb, hab⟩ := hn; ⟨a, b, (A.i 47 c (by omega)).trans ha, (A.i 48 c (by omega)).trans hb, hab⟩) (fun i y hy => ?_) (fun t' h' y P' E' A' e' r' => k t' h' y P' (rf_E.tr ((E1.tr (E2.tr (E3.tr (E4.tr (E5.tr E6)))))) E') (ag.tr (A.mono (fun f i q => by omega)) A') e' r')
    · rw [show nI (8 * c + (j + 1)) = nI (8 * c + j) + 1 from (nI_1 _).symm] at step
      exact step
    · rcases shf_s hk hy with ⟨rfl, hy⟩ | ⟨hne, hy⟩
      · exact (hr _ _ hy).cp
      · exact (hr _ _ hy).cg (fun f h1 h2 => A.1 f _ (by omega))
theorem sp_zkp_loop {xs : List hb_Ms} {T : Int64} {v q : Int32} (hs : xs.length ≤ 4) {k0 : Nat} : ∀ (m j : Nat) (t : rf_S) (h : ev_H), k0 ≤ j → j + m + 1 = xs.length → rf_P z m0 t h → t.2.2.1 58 = nI (xs.length - 1) → (∀ i x, shf xs k0 j i = some x → rkq t (i) x) → (∀ t' h' (y : Option Value), rf_P z m0 t' h' → rf_E m0 h h' → ag (fun f i => 59 ≤ f ∧ f < 62 ∧ 0 ≤ i ∧ i < 0 + 4) t t' → t'.2.2 = t.2.2 → (∀ i x, shf xs k0 (xs.length - 1) i = some x → rkq t' (i) x) → ev_W (mk_Z_retain z) (93, [some (.ref m0), some (.long T), none, some (.int v), some (.int q), some (.int (nI k0)), y], [], h') Q) → ev_W (mk_Z_retain z) (30, [some (.ref m0), some (.long T), none, some (.int v), some (.int q), some (.int (nI k0)), some (.int (nI (j)))], [], h) Q := by
  intro m
  induction m with
  | zero =>
    intro j t h hk hj P hn hr k
    refine ev_W.fn rfl rfl ?_
    refine ev_W.fn rfl rfl ?_
    refine ev_W.obj rfl P.2.2.2.1 rfl ?_
    refine ev_W.brT rfl rfl (by rw [hn]; exact nI_le (by omega) (by omega)) ?_
    exact k _ _ _ P rf_E.rf ag.rf rfl (fun i x hx => hr i x (by rw [show j = xs.length - 1 by omega]; exact hx))
  | succ m ih =>
    intro j t h hk hj P hn hr k
    obtain ⟨x, hx⟩ : ∃ x, xs[j + 1]? = some x := ⟨_, List.getElem?_eq_getElem (by omega)⟩
    have hx' : shf xs k0 j (j + 1) = some x := by unfold shf; rw [if_neg (by omega)]; exact hx
    have rx : rkq t (j + 1) x := hr _ _ hx'
    skip
    refine ev_W.fn rfl rfl ?_
    refine ev_W.fn rfl rfl ?_
    refine ev_W.obj rfl P.2.2.2.1 rfl ?_
    refine ev_W.brF rfl rfl (by rw [hn]; exact nI_ge (by omega) (by omega)) ?_
    refine ev_W.fn rfl rfl ?_
    refine ev_W.obj rfl P.2.2.2.1 rfl ?_
    refine ev_W.fn rfl rfl ?_
    refine ev_W.fn rfl rfl ?_
    refine ev_W.obj rfl P.2.2.2.1 rfl ?_
    refine ev_W.fn rfl rfl ?_
    refine ev_W.fn rfl rfl ?_
    refine ev_W.fn rfl rfl ?_
    refine ev_W.rl 59 P rfl (nI_1 _) (show j + 1 < 4 by omega) rfl ?_
    refine ev_W.sl 59 P rfl rfl (show j < 4 by omega) rfl (fun u1 R1 E1 => ?_)
    refine ev_W.fn rfl rfl ?_
    refine ev_W.obj rfl R1.2.2.2.1 rfl ?_
    refine ev_W.fn rfl rfl ?_
    refine ev_W.fn rfl rfl ?_
    refine ev_W.obj rfl R1.2.2.2.1 rfl ?_
    refine ev_W.fn rfl rfl ?_
    refine ev_W.fn rfl rfl ?_
    refine ev_W.fn rfl rfl ?_
    refine ev_W.ri 60 R1 rfl (nI_1 _) (show j + 1 < 4 by omega) rfl ?_
    refine ev_W.si 60 R1 rfl rfl (show j < 4 by omega) rfl (fun u2 R2 E2 => ?_)
    refine ev_W.fn rfl rfl ?_
    refine ev_W.obj rfl R2.2.2.2.1 rfl ?_
    refine ev_W.fn rfl rfl ?_
    refine ev_W.fn rfl rfl ?_
    refine ev_W.obj rfl R2.2.2.2.1 rfl ?_
    refine ev_W.fn rfl rfl ?_
    refine ev_W.fn rfl rfl ?_
    refine ev_W.fn rfl rfl ?_
    refine ev_W.ri 61 R2 rfl (nI_1 _) (show j + 1 < 4 by omega) rfl ?_
    refine ev_W.si 61 R2 rfl rfl (show j < 4 by omega) rfl (fun u3 R3 E3 => ?_)
    refine ev_W.fn rfl rfl ?_
    refine ev_W.fn rfl rfl ?_
    have RR' : rf_P z m0 (cpK t (j)) _ := R3
    have A := cpK_ag t (j)
    have step := ih (j + 1) (cpK t (j)) _ (by omega) (by omega) RR' hn (fun i y hy => ?_) (fun t' h' y P' E' A' e' r' => k t' h' y P' (rf_E.tr ((E1.tr (E2.tr E3))) E') (ag.tr (A.mono (fun f i q => by omega)) A') e' r')
    · rw [show nI ((j + 1)) = nI (j) + 1 from (nI_1 _).symm] at step
      exact step
    · rcases shf_s hk hy with ⟨rfl, hy⟩ | ⟨hne, hy⟩
      · exact (hr _ _ hy).cp
      · exact (hr _ _ hy).cg (fun f h1 h2 => A.1 f _ (by omega))
theorem tM_id {s : hb_S} {l : Nat} {x : List hb_Ms} (h : x = sM s l) : tM s l x = s := by
  subst h
  have : va_up s.2.2.2.2.2.2 l (sM s l) = s.2.2.2.2.2.2 := by
    funext b
    by_cases q : b = l
    · rw [q, va_up_self]
    · rw [va_up_ne _ _ q]
  simp only [tM, this]
theorem sp_Z_forget {j : Nat} (R : zR z m0 s p t h) (hc : c < 3) (hj : j < (sP s c).length) (k : ∀ t' h', zR z m0 (tP s c ((sP s c).eraseIdx j)) p t' h' → rf_E m0 h h' → Q (none, h')) : ev_M (mf_Z_forget z) [.ref m0, .int (nI c), .int (nI j)] h Q := by
  have P := R.1
  have h4 := R.2.2.2.2.1 c hc
  have hn := (R.2.1.p c hc).1
  refine ev_M.go rfl rfl ?_
  refine ev_W.fn rfl rfl ?_
  refine ev_W.obj rfl P.2.2.2.1 rfl ?_
  refine ev_W.fn rfl rfl ?_
  refine ev_W.fn rfl rfl ?_
  refine ev_W.ri 23 P rfl rfl hc rfl ?_
  refine ev_W.fn rfl rfl ?_
  refine ev_W.fn rfl rfl ?_
  refine ev_W.si 23 P rfl rfl hc rfl (fun u1 R1 E1 => ?_)
  refine ev_W.fn rfl rfl ?_
  refine ev_W.fn rfl rfl ?_
  refine ev_W.fn rfl rfl ?_
  refine ev_W.fn rfl rfl ?_
  refine ev_W.fn rfl rfl ?_
  refine ev_W.fn rfl rfl ?_
  have RR' : rf_P z m0 (uI t 23 c (t.1 23 c - 1)) _ := R1
  have A0 : ag (WP c) t (uI t 23 c (t.1 23 c - 1)) := ag.rf.wI _ (Or.inl ⟨rfl, rfl⟩)
  have hn1 : (uI t 23 c (t.1 23 c - 1)).1 23 c = nI ((sP s c).length - 1) := by rw [uI_1, if_pos ⟨rfl, rfl⟩, hn]; exact nI_p1 (by omega)
  have step := sp_zfg_loop (xs := sP s c) (Q := Q) (k0 := j) hc h4 ((sP s c).length - 1 - j) j _ _ (Nat.le_refl _) (by omega) RR' hn1 (fun i x hx => ?_) (fun t' h' y P' E' A' e' r' => ?_)
  · rw [show nI (4 * c + j) = 4 * nI c + nI j from (zma 4 c j).symm] at step
    exact step
  · rw [shf_0] at hx
    exact ((R.2.1.p c hc).2 i x hx).cg (fun f h1 h2 => ⟨by rw [uI_1, if_neg (by omega)], rfl⟩)
  · have A2 : ag (WP c) t t' := A0.tr (A'.mono (fun f j w => by unfold WP; omega))
    refine ev_W.ret rfl rfl ?_
    refine k t' h' ⟨P', ?_, by have g := R.2.2.1; unfold rg at g ⊢; rw [e']; exact g, R.2.2.2.dP hc (by rw [List.length_eraseIdx_of_lt hj]; omega)⟩ (rf_E.tr (E1) E')
    refine R.2.1.store hc R.2.2.2 A2 (by rw [e']; rfl) ⟨?_, fun i x hx => r' i x (shf_end hj hx)⟩
    rw [A'.i 23 c (by omega), hn1, List.length_eraseIdx_of_lt hj]
theorem hx_at {us : List hb_Pa} {ms : List hb_Ms} {t : rf_S} {b i : Nat} {x : hb_Pa ⊕ hb_Ms} (h1 : ∀ k x, us[k]? = some x → rhm t (b + k) x.1 ∧ t.1 53 (b + k) = x.2.1 ∧ t.1 54 (b + k) = x.2.2) (h2 : ∀ k m, ms[k]? = some m → rhm t (b + us.length + k) m) (h : (us.map Sum.inl ++ ms.map Sum.inr)[i]? = some x) : rhx t (b + i) x := by
  by_cases e : i < us.length
  · rw [List.getElem?_append_left (by simpa using e), List.getElem?_map] at h
    cases hu : us[i]? with
    | none => rw [hu] at h; cases h
    | some a => rw [hu] at h; cases h; exact h1 i a hu
  · rw [List.getElem?_append_right (by simpa using e), List.getElem?_map, List.length_map] at h
    cases hu : ms[i - us.length]? with
    | none => rw [hu] at h; cases h
    | some a =>
      rw [hu] at h; cases h
      have := h2 _ _ hu
      rw [show b + us.length + (i - us.length) = b + i by omega] at this; exact this
theorem hx_to {us : List hb_Pa} {ms : List hb_Ms} {t : rf_S} {b : Nat} (h : ∀ i x, (us.map Sum.inl ++ ms.map Sum.inr)[i]? = some x → rhx t (b + i) x) : (∀ k x, us[k]? = some x → rhm t (b + k) x.1 ∧ t.1 53 (b + k) = x.2.1 ∧ t.1 54 (b + k) = x.2.2) ∧ (∀ k m, ms[k]? = some m → rhm t (b + us.length + k) m) := by
  constructor
  · intro k x hk
    have hl := (List.getElem?_eq_some_iff.mp hk).1
    exact h k (.inl x) (by rw [List.getElem?_append_left (by simpa using hl), List.getElem?_map, hk]; rfl)
  · intro k m hk
    have := h (us.length + k) (.inr m) (by rw [List.getElem?_append_right (by simp), List.getElem?_map, List.length_map, show us.length + k - us.length = k by omega, hk]; rfl)
    rw [← Nat.add_assoc] at this; exact this
theorem hx_er {us : List hb_Pa} {ms : List hb_Ms} {j : Nat} (h : j < us.length) : (us.map Sum.inl ++ ms.map Sum.inr : List (hb_Pa ⊕ hb_Ms)).eraseIdx j = (us.eraseIdx j).map Sum.inl ++ ms.map Sum.inr := by
  rw [List.eraseIdx_append_of_lt_length (by simpa using h), map_eIdx]
theorem sp_Z_done {j : Nat} (R : zR z m0 s p t h) (hc : c < 3) (hj : j < (sP s (3 + c)).length) (k : ∀ t' h', zR z m0 (tP s (3 + c) ((sP s (3 + c)).eraseIdx j)) p t' h' → rf_E m0 h h' → Q (none, h')) : ev_M (mf_Z_done z) [.ref m0, .int (nI c), .int (nI j)] h Q := by
  have P := R.1
  have h7 := R.2.2.2.2.2.2.1 c hc
  obtain ⟨hn, hq, hu, hm⟩ := R.2.1.u c hc
  have hL : ((sP s (3 + c)).map Sum.inl ++ (sM s c).map Sum.inr : List (hb_Pa ⊕ hb_Ms)).length = (sP s (3 + c)).length + (sM s c).length := by simp
  refine ev_M.go rfl rfl ?_
  refine ev_W.fn rfl rfl ?_
  refine ev_W.obj rfl P.2.2.2.1 rfl ?_
  refine ev_W.fn rfl rfl ?_
  refine ev_W.fn rfl rfl ?_
  refine ev_W.ri 47 P rfl rfl hc rfl ?_
  refine ev_W.fn rfl rfl ?_
  refine ev_W.fn rfl rfl ?_
  refine ev_W.si 47 P rfl rfl hc rfl (fun u1 R1 E1 => ?_)
  refine ev_W.fn rfl rfl ?_
  refine ev_W.fn rfl rfl ?_
  refine ev_W.fn rfl rfl ?_
  refine ev_W.fn rfl rfl ?_
  refine ev_W.fn rfl rfl ?_
  refine ev_W.fn rfl rfl ?_
  have RR' : rf_P z m0 (uI t 47 c (t.1 47 c - 1)) _ := R1
  have A0 : ag (WU c) t (uI t 47 c (t.1 47 c - 1)) := ag.rf.wI _ (Or.inl ⟨Or.inl rfl, rfl⟩)
  have hn1 : (uI t 47 c (t.1 47 c - 1)).1 47 c = nI ((sP s (3 + c)).length - 1) := by rw [uI_1, if_pos ⟨rfl, rfl⟩, hn]; exact nI_p1 (by omega)
  have hq1 : (uI t 47 c (t.1 47 c - 1)).1 48 c = nI (sM s c).length := by rw [uI_1, if_neg (by omega)]; exact hq
  have step := sp_zdo_loop (xs := (sP s (3 + c)).map Sum.inl ++ (sM s c).map Sum.inr) (Q := Q) (k0 := j) hc (by rw [hL]; omega) ((sP s (3 + c)).length + (sM s c).length - 1 - j) j _ _ (Nat.le_refl _) (by rw [hL]; omega) RR' ⟨_, _, hn1, hq1, by rw [hL]; omega⟩ (fun i x hx => ?_) (fun t' h' y P' E' A' e' r' => ?_)
  · rw [show nI (8 * c + j) = 8 * nI c + nI j from (zma 8 c j).symm] at step
    exact step
  · rw [shf_0] at hx
    exact (hx_at hu hm hx).cg (fun f h1 h2 => ⟨by rw [uI_1, if_neg (by omega)], rfl⟩)
  · have A2 : ag (WU c) t t' := A0.tr (A'.mono (fun f j w => by unfold WU; omega))
    have r2 := hx_to (us := (sP s (3 + c)).eraseIdx j) (ms := sM s c) (t := t') (b := 8 * c) (fun i x hx => r' i x (shf_end (by rw [hL]; omega) (by rw [hx_er hj]; exact hx)))
    have eS : tP (tM s c (sM s c)) (3 + c) ((sP s (3 + c)).eraseIdx j) = tP s (3 + c) ((sP s (3 + c)).eraseIdx j) := by rw [tM_id rfl]
    refine ev_W.ret rfl rfl ?_
    refine k t' h' ⟨P', ?_, by have g := R.2.2.1; unfold rg at g ⊢; rw [e']; exact g, ?_⟩ (rf_E.tr (E1) E')
    · rw [← eS]
      refine R.2.1.here hc R.2.2.2 A2 (by rw [e']; rfl) ⟨?_, ?_, r2.1, r2.2⟩
      · rw [A'.i 47 c (by omega), hn1, List.length_eraseIdx_of_lt hj]
      · rw [A'.i 48 c (by omega), hq1]
    · rw [← eS]
      exact R.2.2.2.dU hc (by rw [List.length_eraseIdx_of_lt hj]; omega)
end ZH
