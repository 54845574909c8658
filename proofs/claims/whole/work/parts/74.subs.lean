/-! Subscriptions, retained messages, pumping, spreading (laid by wip/whole/p74.py). -/
def ix_of {α : Type} (P : α → Bool) : List α → Nat → Option Nat
  | [], _ => none
  | x :: r, i => if P x = true then some i else ix_of P r (i + 1)
def on_i : Option Nat → Int32
  | none => -1
  | some i => nI i
theorem ix_of_some {α : Type} {P : α → Bool} : ∀ {l : List α} {i j : Nat}, ix_of P l i = some j → ∃ x, i ≤ j ∧ l[j - i]? = some x ∧ P x = true := by
  intro l
  induction l with
  | nil => intro i j h; cases h
  | cons x r ih =>
    intro i j h
    rw [ix_of] at h
    split at h
    · cases h
      exact ⟨x, Nat.le_refl _, by simp, by assumption⟩
    · obtain ⟨y, h1, h2, h3⟩ := ih h
      refine ⟨y, by omega, ?_, h3⟩
      have e : j - i = j - (i + 1) + 1 := by omega
      rw [e, List.getElem?_cons_succ]; exact h2
def M_cq (x : hb_Sb) (m : hb_Ms) (own : Bool) : Int32 := if (own = true ∧ x.2.2 = true) ∨ tc_cov x.1 m.1 = false then -1 else if m.2.2.1 < x.2.1 then m.2.2.1 else x.2.1
section SF
variable {z : Nat × Nat} {sz dyn : Nat} {mu : Nat → Option ev_E} {n1 n2 c : Nat} {Q : ev_O → Prop}
theorem sp_U_cq {G : hb_G} {h : ev_H} {a ma : Nat} {x : hb_Sb} {m : hb_Ms} {own : Bool} (hp : su_at dyn G h c a x) (hm : ms_at dyn G h ma m) (k : Q (some (.int (M_cq x m own)), h)) : ev_M (mf_U_copyQuality z) [.ref a, .ref ma, .int (zb own)] h Q := by
  obtain ⟨f, q, nl⟩ := x
  obtain ⟨t, v, mq, rt⟩ := m
  unfold M_cq at k
  refine ev_M.go rfl rfl ?_
  refine ev_W.fn rfl rfl ?_
  refine ev_W.br rfl rfl (fun h1 => ?_) (fun h1 => ?_)
  · have n1 : ¬ (own = true ∧ nl = true) := fun q => by have := zb_n0.mp h1; rw [q.1] at this; cases this
    refine ev_W.fn rfl rfl ?_
    refine ev_W.obj rfl hp.1 rfl ?_
    refine ev_W.fn rfl rfl ?_
    refine ev_W.obj rfl hm.1 rfl ?_
    refine ev_W.cl rfl rfl rfl rfl rfl ?_
    refine sp_T_covers ?_
    refine ev_W.br rfl rfl (fun h3 => ?_) (fun h3 => ?_)
    · have h3 := zb_1.mp h3
      refine ev_W.fn rfl rfl ?_
      refine ev_W.obj rfl hp.1 rfl ?_
      refine ev_W.fn rfl rfl ?_
      refine ev_W.obj rfl hm.1 rfl ?_
      refine ev_W.fn rfl rfl ?_
      refine ev_W.ret rfl rfl ?_
      rw [if_neg (fun q => q.elim n1 (fun q => by rw [h3] at q; cases q))] at k
      exact k
    · have h3 := zb_n0.mp (Decidable.not_not.mp h3)
      refine ev_W.fn rfl rfl ?_
      refine ev_W.ret rfl rfl ?_
      rw [if_pos (Or.inr h3)] at k
      exact k
  · refine ev_W.fn rfl rfl ?_
    refine ev_W.obj rfl hp.1 rfl ?_
    refine ev_W.br rfl rfl (fun h2 => ?_) (fun h2 => ?_)
    · refine ev_W.fn rfl rfl ?_
      refine ev_W.ret rfl rfl ?_
      rw [if_pos (Or.inl ⟨zb_1.mp h1, zb_1.mp h2⟩)] at k
      exact k
    · have n1 : ¬ (own = true ∧ nl = true) := fun q => by have := zb_n0.mp (Decidable.not_not.mp h2); rw [q.2] at this; cases this
      refine ev_W.fn rfl rfl ?_
      refine ev_W.obj rfl hp.1 rfl ?_
      refine ev_W.fn rfl rfl ?_
      refine ev_W.obj rfl hm.1 rfl ?_
      refine ev_W.cl rfl rfl rfl rfl rfl ?_
      refine sp_T_covers ?_
      refine ev_W.br rfl rfl (fun h3 => ?_) (fun h3 => ?_)
      · have h3 := zb_1.mp h3
        refine ev_W.fn rfl rfl ?_
        refine ev_W.obj rfl hp.1 rfl ?_
        refine ev_W.fn rfl rfl ?_
        refine ev_W.obj rfl hm.1 rfl ?_
        refine ev_W.fn rfl rfl ?_
        refine ev_W.ret rfl rfl ?_
        rw [if_neg (fun q => q.elim n1 (fun q => by rw [h3] at q; cases q))] at k
        exact k
      · have h3 := zb_n0.mp (Decidable.not_not.mp h3)
        refine ev_W.fn rfl rfl ?_
        refine ev_W.ret rfl rfl ?_
        rw [if_pos (Or.inr h3)] at k
        exact k
theorem sp_fd_loop {G : hb_G} {s : hb_S} {h : ev_H} (R : hb_R z sz dyn mu G n1 n2 s h) (hc : c < 3) {f : Int64} (k : Q (some (.int (on_i (ix_of (fun x => decide (x.1 = f)) (sB s c) 0))), h)) : ∀ (B A : List hb_Sb), sB s c = A ++ B → ix_of (fun x => decide (x.1 = f)) (sB s c) 0 = ix_of (fun x => decide (x.1 = f)) B A.length → ev_W (mk_S_find z) (2, [some (.ref (sz + (29 + 6 * c))), some (.long f), none, some (.int (nI A.length))], [], h) Q := by
  have hlen := R.blen hc
  intro B
  induction B with
  | nil =>
    intro A hs he
    rw [List.append_nil] at hs
    rw [he, ix_of] at k
    refine ev_W.fn rfl rfl ?_
    refine ev_W.fn rfl rfl ?_
    refine ev_W.obj rfl (R.o7 hc) rfl ?_
    refine ev_W.clR rfl rfl rfl rfl rfl (R.lo (bl_lt hc)) ?_
    refine R.bsize hc ?_
    refine ev_W.brT rfl rfl (nI_le (by rw [hs]; exact Nat.le_refl _) (by rw [hs] at hlen; omega)) ?_
    refine ev_W.fn rfl rfl ?_
    refine ev_W.ret rfl rfl ?_
    exact k
  | cons x B ih =>
    intro A hs he
    have hix : (sB s c)[A.length]? = some x := by rw [hs]; simp
    have hL : (sB s c).length = A.length + 1 + B.length := by rw [hs]; simp; omega
    obtain ⟨x1, x2⟩ := x
    refine ev_W.fn rfl rfl ?_
    refine ev_W.fn rfl rfl ?_
    refine ev_W.obj rfl (R.o7 hc) rfl ?_
    refine ev_W.clR rfl rfl rfl rfl rfl (R.lo (bl_lt hc)) ?_
    refine R.bsize hc ?_
    refine ev_W.brF rfl rfl (nI_ge (by omega) (by omega)) ?_
    refine ev_W.fn rfl rfl ?_
    refine ev_W.obj rfl (R.o7 hc) rfl ?_
    refine ev_W.fn rfl rfl ?_
    refine ev_W.clR rfl rfl rfl rfl rfl (R.lo (bl_lt hc)) ?_
    refine R.bget hc hix (fun a1 ha1 hp1 => ?_)
    refine ev_W.cast rfl hp1.1 ?_
    refine ev_W.obj rfl hp1.1 rfl ?_
    refine ev_W.fn rfl rfl ?_
    refine ev_W.fn rfl rfl ?_
    refine ev_W.br rfl rfl (fun h1 => ?_) (fun h1 => ?_)
    · have h1 := lc_ne h1
      refine ev_W.fn rfl rfl ?_
      refine ev_W.fn rfl rfl ?_
      have := ih (A ++ [(x1, x2)]) (by rw [hs]; simp) (by rw [he, ix_of, if_neg (by simpa using h1), List.length_append]; rfl)
      rw [List.length_append] at this
      have e2 : nI (A.length + [(x1, x2)].length) = nI A.length + 1 := (nI_1 _).symm
      rw [e2] at this
      exact this
    · refine ev_W.fn rfl rfl ?_
      refine ev_W.ret rfl rfl ?_
      have h1 := lc_en h1
      rw [he, ix_of, if_pos (by simpa using h1)] at k
      exact k
theorem sp_S_find {G : hb_G} {s : hb_S} {h : ev_H} (R : hb_R z sz dyn mu G n1 n2 s h) (hc : c < 3) {f : Int64} (k : Q (some (.int (on_i (ix_of (fun x => decide (x.1 = f)) (sB s c) 0))), h)) : ev_M (mf_S_find z) [.ref (sz + (29 + 6 * c)), .long f] h Q := by
  refine ev_M.go rfl rfl ?_
  refine ev_W.fn rfl rfl ?_
  refine ev_W.fn rfl rfl ?_
  exact sp_fd_loop R hc k (sB s c) [] rfl rfl
theorem sp_fr_loop {G : hb_G} {s : hb_S} {h : ev_H} (R : hb_R z sz dyn mu G n1 n2 s h) {f : Int64} (k : Q (some (.int (on_i (ix_of (fun x => decide (x.1 = f)) (sM s 3) 0))), h)) : ∀ (B A : List hb_Ms), sM s 3 = A ++ B → ix_of (fun x => decide (x.1 = f)) (sM s 3) 0 = ix_of (fun x => decide (x.1 = f)) B A.length → ev_W (mk_B_findRetained z) (2, [some (.ref (sz + 24)), some (.long f), none, some (.int (nI A.length))], [], h) Q := by
  have hlen := R.mlen (l := 3) (by decide)
  intro B
  induction B with
  | nil =>
    intro A hs he
    rw [List.append_nil] at hs
    rw [he, ix_of] at k
    refine ev_W.fn rfl rfl ?_
    refine ev_W.fn rfl rfl ?_
    refine ev_W.obj rfl R.o5 rfl ?_
    refine ev_W.clR rfl rfl rfl rfl rfl (R.lo (hb_mj_lt (by decide))) ?_
    refine R.msize (by decide) ?_
    refine ev_W.brT rfl rfl (nI_le (by rw [hs]; exact Nat.le_refl _) (by rw [hs] at hlen; omega)) ?_
    refine ev_W.fn rfl rfl ?_
    refine ev_W.ret rfl rfl ?_
    exact k
  | cons x B ih =>
    intro A hs he
    have hix : (sM s 3)[A.length]? = some x := by rw [hs]; simp
    have hL : (sM s 3).length = A.length + 1 + B.length := by rw [hs]; simp; omega
    obtain ⟨x1, x2⟩ := x
    refine ev_W.fn rfl rfl ?_
    refine ev_W.fn rfl rfl ?_
    refine ev_W.obj rfl R.o5 rfl ?_
    refine ev_W.clR rfl rfl rfl rfl rfl (R.lo (hb_mj_lt (by decide))) ?_
    refine R.msize (by decide) ?_
    refine ev_W.brF rfl rfl (nI_ge (by omega) (by omega)) ?_
    refine ev_W.fn rfl rfl ?_
    refine ev_W.obj rfl R.o5 rfl ?_
    refine ev_W.fn rfl rfl ?_
    refine ev_W.clR rfl rfl rfl rfl rfl (R.lo (hb_mj_lt (by decide))) ?_
    refine R.mget (by decide) hix (fun a1 hp1 => ?_)
    refine ev_W.cast rfl hp1.1 ?_
    refine ev_W.obj rfl hp1.1 rfl ?_
    refine ev_W.fn rfl rfl ?_
    refine ev_W.fn rfl rfl ?_
    refine ev_W.br rfl rfl (fun h1 => ?_) (fun h1 => ?_)
    · have h1 := lc_ne h1
      refine ev_W.fn rfl rfl ?_
      refine ev_W.fn rfl rfl ?_
      have := ih (A ++ [(x1, x2)]) (by rw [hs]; simp) (by rw [he, ix_of, if_neg (by simpa using h1), List.length_append]; rfl)
      rw [List.length_append] at this
      have e2 : nI (A.length + [(x1, x2)].length) = nI A.length + 1 := (nI_1 _).symm
      rw [e2] at this
      exact this
    · refine ev_W.fn rfl rfl ?_
      refine ev_W.ret rfl rfl ?_
      have h1 := lc_en h1
      rw [he, ix_of, if_pos (by simpa using h1)] at k
      exact k
theorem sp_B_findRetained {G : hb_G} {s : hb_S} {h : ev_H} (R : hb_R z sz dyn mu G n1 n2 s h) {f : Int64} (k : Q (some (.int (on_i (ix_of (fun x => decide (x.1 = f)) (sM s 3) 0))), h)) : ev_M (mf_B_findRetained z) [.ref (sz + 24), .long f] h Q := by
  refine ev_M.go rfl rfl ?_
  refine ev_W.fn rfl rfl ?_
  refine ev_W.fn rfl rfl ?_
  exact sp_fr_loop R k (sM s 3) [] rfl rfl
def M_retain (s : hb_S) (m : hb_Ms) : hb_S := match ix_of (fun x => decide (x.1 = m.1)) (sM s 3) 0 with
  | some i => if m.2.1 = 0 then tM s 3 ((sM s 3).eraseIdx i) else tM s 3 ((sM s 3).set i m)
  | none => if ¬ m.2.1 = 0 ∧ (sM s 3).length < 4 then tM s 3 (sM s 3 ++ [m]) else s
theorem on_i_nn {i : Nat} (h : i < 2 ^ 31) : ¬ on_i (some i) < 0 := nI_pos h
theorem sp_B_retain {G : hb_G} {s : hb_S} {h : ev_H} {ma : Nat} {m : hb_Ms} (R : hb_R z sz dyn mu G n1 n2 s h) (hm : ms_at dyn G h ma m) (k : ∀ (G' : hb_G) (h' : ev_H), hb_R z sz dyn mu G' (n1 + 1) (n2 + 40) (M_retain s m) h' → hb_E dyn G h G' h' → Q (none, h')) : ev_M (mf_B_retain z) [.ref (sz + 24), .ref ma] h Q := by
  have hlen := R.mlen (l := 3) (by decide)
  obtain ⟨t, v, q, rt⟩ := m
  unfold M_retain at k
  dsimp only at k
  refine ev_M.go rfl rfl ?_
  refine ev_W.fn rfl rfl ?_
  refine ev_W.fn rfl rfl ?_
  refine ev_W.obj rfl hm.1 rfl ?_
  refine ev_W.clR rfl rfl rfl rfl rfl R.o5 ?_
  refine sp_B_findRetained R ?_
  cases hix : ix_of (fun x => decide (x.1 = t)) (sM s 3) 0 with
  | none =>
    rw [hix] at k
    dsimp only at k
    refine ev_W.fn rfl rfl ?_
    refine ev_W.fn rfl rfl ?_
    refine ev_W.fn rfl rfl ?_
    refine ev_W.fn rfl rfl ?_
    refine ev_W.fn rfl rfl ?_
    refine ev_W.fn rfl rfl ?_
    refine ev_W.obj rfl hm.1 rfl ?_
    refine ev_W.br rfl rfl (fun h1 => ?_) (fun h1 => ?_)
    · refine ev_W.ret rfl rfl ?_
      exact k _ _ (by rw [if_neg (fun q => q.1 h1)]; exact R.up (by omega) (by omega)) hb_E.rf
    · refine ev_W.fn rfl rfl ?_
      refine ev_W.obj rfl R.o5 rfl ?_
      refine ev_W.clR rfl rfl rfl rfl rfl (R.lo (hb_mj_lt (by decide))) ?_
      refine R.msize (by decide) ?_
      refine ev_W.fn rfl rfl ?_
      refine ev_W.br rfl rfl (fun h2 => ?_) (fun h2 => ?_)
      · refine ev_W.ret rfl rfl ?_
        exact k _ _ (by rw [if_neg (fun q => nI_ge (b := 4) q.2 (by decide) h2)]; exact R.up (by omega) (by omega)) hb_E.rf
      · have h2 : (sM s 3).length < 4 := Nat.lt_of_not_le (fun q => h2 (nI_le (a := 4) q (by omega)))
        refine ev_W.fn rfl rfl ?_
        refine ev_W.obj rfl R.o5 rfl ?_
        refine ev_W.fn rfl rfl ?_
        refine ev_W.clR rfl rfl rfl rfl rfl (R.lo (hb_mj_lt (by decide))) ?_
        refine R.madd (by decide) (by omega) hm (fun G1 u1 R1 E1 => ?_)
        refine ev_W.fn rfl rfl ?_
        refine ev_W.ret rfl rfl ?_
        exact k _ _ (by rw [if_pos ⟨h1, h2⟩]; exact R1) E1
  | some i =>
    rw [hix] at k
    dsimp only at k
    obtain ⟨x, -, hx, -⟩ := ix_of_some hix
    have hil : i < (sM s 3).length := (List.getElem?_eq_some_iff.mp hx).1
    refine ev_W.fn rfl rfl ?_
    refine ev_W.fn rfl rfl ?_
    refine ev_W.brF rfl rfl (on_i_nn (by omega)) ?_
    refine ev_W.fn rfl rfl ?_
    refine ev_W.obj rfl hm.1 rfl ?_
    refine ev_W.br rfl rfl (fun h1 => ?_) (fun h1 => ?_)
    · refine ev_W.fn rfl rfl ?_
      refine ev_W.brF rfl rfl (on_i_nn (by omega)) ?_
      refine ev_W.fn rfl rfl ?_
      refine ev_W.obj rfl R.o5 rfl ?_
      refine ev_W.fn rfl rfl ?_
      refine ev_W.fn rfl rfl ?_
      refine ev_W.clR rfl rfl rfl rfl rfl (R.lo (hb_mj_lt (by decide))) ?_
      refine R.mset (by decide) hx hm (fun G1 u1 b1 R1 E1 => ?_)
      refine ev_W.fn rfl rfl ?_
      refine ev_W.fn rfl rfl ?_
      refine ev_W.ret rfl rfl ?_
      exact k _ _ (by rw [if_neg h1]; exact R1.up (by omega) (by omega)) E1
    · have h1 := Decidable.not_not.mp h1
      refine ev_W.fn rfl rfl ?_
      refine ev_W.obj rfl R.o5 rfl ?_
      refine ev_W.fn rfl rfl ?_
      refine ev_W.clR rfl rfl rfl rfl rfl (R.lo (hb_mj_lt (by decide))) ?_
      refine R.mrem (by decide) hx (fun G2 u2 a2 hp2 R2 E2 => ?_)
      refine ev_W.fn rfl rfl ?_
      refine ev_W.fn rfl rfl ?_
      refine ev_W.ret rfl rfl ?_
      exact k _ _ (by rw [if_pos h1]; exact R2.up (by omega) (by omega)) E2
def M_enter (s : hb_S) (c : Nat) (f : Int64) (q : Int32) (nl : Bool) : hb_S × Bool := match ix_of (fun x => decide (x.1 = f)) (sB s c) 0 with
  | some i => (tB s c ((sB s c).set i (f, q, nl)), true)
  | none => if (sB s c).length < 4 then (tB s c (sB s c ++ [(f, q, nl)]), true) else (s, false)
theorem tB_tB (s : hb_S) (l : Nat) (x y : List hb_Sb) : tB (tB s l x) l y = tB s l y := by
  simp only [tB, bx_uu]
theorem sp_U_new {G : hb_G} {s : hb_S} {h : ev_H} {a : Nat} {f : Int64} (R : hb_R z sz dyn mu G n1 n2 s h) (hn : nw_at dyn G h a 11 ff_11) (k : ∀ (h' : ev_H), hb_R z sz dyn mu G n1 n2 s h' → hb_E dyn G h G h' → nw_at dyn G h' a 11 (hb_sbF (f, 0, false)) → Q (none, h')) : ev_M (mf_U_init z) [.ref a, .long f] h Q := by
  refine sp_U_init hn.1 ?_
  exact k _ (R.pu hn.2.2 (R.1.1 a _ hn.1) hn.2.1 _) (hb_E.pu hn.2.1 _) ⟨ev_put_same, hn.2.1, hn.2.2⟩
theorem sp_en_tail {G : hb_G} {s : hb_S} {h : ev_H} {i : Nat} {x : hb_Sb} (R : hb_R z sz dyn mu G n1 n2 s h) (hc : c < 3) {f : Int64} {q : Int32} {nl : Bool} (hi : (sB s c)[i]? = some x) (k : ∀ (h' : ev_H), hb_R z sz dyn mu G n1 n2 (tB s c ((sB s c).set i (x.1, q, nl))) h' → hb_E dyn G h G h' → Q (some (.int 1), h')) : ev_W (mk_S_enter z) (50, [some (.ref (sz + (29 + 6 * c))), some (.long f), none, some (.int q), some (.int (zb nl)), some (.int (nI i))], [], h) Q := by
  obtain ⟨xf, xq, xn⟩ := x
  have hil : i < (sB s c).length := (List.getElem?_eq_some_iff.mp hi).1

  refine ev_W.fn rfl rfl ?_
  refine ev_W.obj rfl (R.o7 hc) rfl ?_
  refine ev_W.fn rfl rfl ?_
  refine ev_W.clR rfl rfl rfl rfl rfl (R.lo (bl_lt hc)) ?_
  refine R.bget hc hi (fun a1 ha1 hp1 => ?_)
  refine ev_W.cast rfl hp1.1 ?_
  refine ev_W.fn rfl rfl ?_
  refine ev_W.putf rfl hp1.1 rfl rfl rfl ?_
  have R2 := R.sub hc hi ha1 (xf, q, xn)
  have E2 : hb_E dyn G h G _ := hb_E.own (x := .inr (11, hb_sbF (xf, q, xn))) (by rw [hp1.2.1]; omega)
  have hi2 : (sB (tB s c ((sB s c).set i (xf, q, xn))) c)[i]? = some (xf, q, xn) := by simp [st_a, hil]
  refine ev_W.fn rfl rfl ?_
  refine ev_W.obj rfl (R2.o7 hc) rfl ?_
  refine ev_W.fn rfl rfl ?_
  refine ev_W.clR rfl rfl rfl rfl rfl (R2.lo (bl_lt hc)) ?_
  refine R2.bget hc hi2 (fun a3 ha3 hp3 => ?_)
  refine ev_W.cast rfl hp3.1 ?_
  refine ev_W.fn rfl rfl ?_
  refine ev_W.putf rfl hp3.1 rfl (nb_bool (zb_01 nl)) (fb_bool nl) ?_
  have R4 := R2.sub hc hi2 ha3 (xf, q, nl)
  have E4 := hb_E.own (dyn := dyn) (G := G) (h := (ev_put h a1 (Sum.inr (11, hb_sbF (xf, q, xn))))) (a := a3) (x := .inr (11, hb_sbF (xf, q, nl))) (by rw [hp3.2.1]; omega)
  refine ev_W.fn rfl rfl ?_
  refine ev_W.zret rfl (Or.inr rfl) ?_
  refine k _ ?_ (E2.tr E4)
  have e : tB (tB s c ((sB s c).set i (xf, q, xn))) c ((sB (tB s c ((sB s c).set i (xf, q, xn))) c).set i (xf, q, nl)) = tB s c ((sB s c).set i (xf, q, nl)) := by
    rw [tB_tB, sB_tB, List.set_set]
  rw [e] at R4
  exact R4
theorem sp_S_enter {G : hb_G} {s : hb_S} {h : ev_H} (R : hb_R z sz dyn mu G n1 n2 s h) (hc : c < 3) {f : Int64} {q : Int32} {nl : Bool} (k : ∀ (G' : hb_G) (h' : ev_H), hb_R z sz dyn mu G' (n1 + 2) (n2 + 43) (M_enter s c f q nl).1 h' → hb_E dyn G h G' h' → Q (some (.int (zb (M_enter s c f q nl).2)), h')) : ev_M (mf_S_enter z) [.ref (sz + (29 + 6 * c)), .long f, .int q, .int (zb nl)] h Q := by
  have hlen := R.blen hc
  unfold M_enter at k
  refine ev_M.go rfl rfl ?_
  refine ev_W.fn rfl rfl ?_
  refine ev_W.fn rfl rfl ?_
  refine ev_W.clR rfl rfl rfl rfl rfl (R.o7 hc) ?_
  refine sp_S_find R hc ?_
  cases hix : ix_of (fun x => decide (x.1 = f)) (sB s c) 0 with
  | none =>
    rw [hix] at k
    dsimp only at k
    refine ev_W.fn rfl rfl ?_
    refine ev_W.fn rfl rfl ?_
    refine ev_W.fn rfl rfl ?_
    refine ev_W.fn rfl rfl ?_
    refine ev_W.obj rfl (R.o7 hc) rfl ?_
    refine ev_W.clR rfl rfl rfl rfl rfl (R.lo (bl_lt hc)) ?_
    refine R.bsize hc ?_
    refine ev_W.fn rfl rfl ?_
    refine ev_W.br rfl rfl (fun h2 => ?_) (fun h2 => ?_)
    · have h2 : (sB s c).length < 4 := by
        have := (nI_ltI (a := (sB s c).length) (b := 4) (by omega) (by decide)).mp h2
        exact this
      rw [if_pos h2] at k
      refine ev_W.fn rfl rfl ?_
      refine ev_W.obj rfl (R.o7 hc) rfl ?_
      refine ev_W.clR rfl rfl rfl rfl rfl (R.lo (bl_lt hc)) ?_
      refine R.bsize hc ?_
      refine ev_W.fn rfl rfl ?_
      refine ev_W.fn rfl rfl ?_
      refine ev_W.obj rfl (R.o7 hc) rfl ?_
      refine ev_W.nw R rfl (fun G1 u1 a1 R1 E1 na1 => ?_)
      refine ev_W.fn rfl rfl ?_
      refine ev_W.fn rfl rfl ?_
      refine ev_W.clI rfl rfl rfl rfl rfl ?_
      refine sp_U_new R1 na1 (fun u2 R2 E2 nb2 => ?_)
      refine ev_W.clR rfl rfl rfl rfl rfl (R2.lo (bl_lt hc)) ?_
      refine R2.badd hc (by omega) nb2.1 nb2.2.1 nb2.2.2 (fun G3 u3 R3 E3 => ?_)
      have hi3 : (sB (tB s c (sB s c ++ [(f, 0, false)])) c)[(sB s c).length]? = some (f, 0, false) := by simp [st_a]
      refine ev_W.fn rfl rfl ?_
      refine sp_en_tail R3 hc (q := q) (nl := nl) hi3 (fun h' R' E' => k _ _ ?_ ((E1.tr (E2.tr E3)).tr E'))
      have e : tB (tB s c (sB s c ++ [(f, 0, false)])) c ((sB (tB s c (sB s c ++ [(f, 0, false)])) c).set (sB s c).length (f, q, nl)) = tB s c (sB s c ++ [(f, q, nl)]) := by
        rw [tB_tB, sB_tB]; simp
      rw [← e]
      exact R'.up (by omega) (by omega)
    · have h2 : ¬ (sB s c).length < 4 := fun q => h2 (nI_lt q (by decide))
      rw [if_neg h2] at k
      refine ev_W.fn rfl rfl ?_
      refine ev_W.zret rfl (Or.inl rfl) ?_
      exact k _ _ (R.up (by omega) (by omega)) hb_E.rf
  | some i =>
    rw [hix] at k
    dsimp only at k
    obtain ⟨x, -, hx, hxf⟩ := ix_of_some hix
    have hxf : x.1 = f := of_decide_eq_true hxf
    have hil : i < (sB s c).length := (List.getElem?_eq_some_iff.mp hx).1
    refine ev_W.fn rfl rfl ?_
    refine ev_W.fn rfl rfl ?_
    refine ev_W.brT rfl rfl (nI_pos' (by omega)) ?_
    refine sp_en_tail R hc hx (fun h' R' E' => k _ _ ?_ E')
    rw [hxf] at R'
    exact R'.up (by omega) (by omega)
end SF
