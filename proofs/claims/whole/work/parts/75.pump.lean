/-! Counting, pumping, spreading (laid by wip/whole/p75.py). -/
def M_ck (l : List hb_Sb) (m : hb_Ms) (own : Bool) : Nat := (l.filter (fun x => decide (0 < M_cq x m own))).length
def M_st (s : hb_S) (c : Nat) (m : hb_Ms) (q : List hb_Ms) : hb_S := M_send (tP (tM s c q) (3 + c) (sP s (3 + c) ++ [(m, 1, nI (pa_id (sP s (3 + c))))])) c (M_pkt m (nI (pa_id (sP s (3 + c)))) false)
def M_pm : Nat → hb_S → Nat → Int32 → hb_S
  | 0, s, _, _ => s
  | n + 1, s, c, w => if w ≤ nI (sP s (3 + c)).length then s else match sM s c with
    | [] => s
    | m :: q => M_pm n (M_st s c m q) c w
def M_win (s : hb_S) (c : Nat) : Int32 := if sI s 1 c = 0 then 0 else sI s 6 c
def M_pump (s : hb_S) (c : Nat) : hb_S := M_pm (sM s c).length s c (M_win s c)
def M_sp1 (s : hb_S) (c : Nat) (x : hb_Sb) (m : hb_Ms) (own : Bool) : hb_S := if M_cq x m own = 0 ∧ (sN s (2 * c + 1)).length < 12 then M_send s c (M_pkt (m.1, m.2.1, 0, false) 0 false) else if 0 < M_cq x m own then tM s c (sM s c ++ [(m.1, m.2.1, M_cq x m own, false)]) else s
def M_spr : List hb_Sb → hb_S → Nat → hb_Ms → Bool → hb_S
  | [], s, _, _, _ => s
  | x :: r, s, c, m, own => M_spr r (M_sp1 s c x m own) c m own
def M_give (s : hb_S) (c : Nat) (m : hb_Ms) : hb_S := if m.2.2.1 = 0 ∧ (sN s (2 * c + 1)).length < 12 then M_send s c (M_pkt m 0 false) else if 0 < m.2.2.1 ∧ (sM s c).length + (sP s (3 + c)).length < 6 then tM s c (sM s c ++ [m]) else s
theorem sP_send (s : hb_S) (c : Nat) (p : hb_Pk) : sP (M_send s c p) = sP s := by unfold M_send; split <;> rfl
theorem sM_send (s : hb_S) (c : Nat) (p : hb_Pk) : sM (M_send s c p) = sM s := by unfold M_send; split <;> rfl
theorem sB_send (s : hb_S) (c : Nat) (p : hb_Pk) : sB (M_send s c p) = sB s := by unfold M_send; split <;> rfl
theorem sI_send (s : hb_S) (c : Nat) (p : hb_Pk) : sI (M_send s c p) = sI s := by unfold M_send; split <;> rfl
theorem sJ_send (s : hb_S) (c : Nat) (p : hb_Pk) : sJ (M_send s c p) = sJ s := by unfold M_send; split <;> rfl
theorem sX_send (s : hb_S) (c : Nat) (p : hb_Pk) : sX (M_send s c p) = sX s := by unfold M_send; split <;> rfl
theorem sN_send_ne (s : hb_S) (c : Nat) (p : hb_Pk) {l : Nat} (h : l ≠ 2 * c + 1) : sN (M_send s c p) l = sN s l := by
  unfold M_send; split
  · rfl
  · simp [st_a, h]
theorem sN_send_len (s : hb_S) (c : Nat) (p : hb_Pk) : (sN (M_send s c p) (2 * c + 1)).length ≤ (sN s (2 * c + 1)).length + 1 := by
  unfold M_send; split
  · omega
  · simp [st_a]
section PU
variable {z : Nat × Nat} {sz dyn : Nat} {mu : Nat → Option ev_E} {c : Nat} {Q : ev_O → Prop}
theorem sp_R_new {n1 n2 : Nat} {G : hb_G} {s : hb_S} {h : ev_H} {a ma : Nat} (R : hb_R z sz dyn mu G n1 n2 s h) (hn : nw_at dyn G h a 10 ff_10) (k : ∀ (h' : ev_H), hb_R z sz dyn mu G n1 n2 s h' → hb_E dyn G h G h' → nw_at dyn G h' a 10 [.ref ma, .int 0, .int 0] → Q (none, h')) : ev_M (mf_R_init z) [.ref a, .ref ma] h Q := by
  refine sp_R_init hn.1 ?_
  exact k _ (R.pu hn.2.2 (R.1.1 a _ hn.1) hn.2.1 _) (hb_E.pu hn.2.1 _) ⟨ev_put_same, hn.2.1, hn.2.2⟩
theorem sp_R_st9 {n1 n2 : Nat} {G : hb_G} {s : hb_S} {h : ev_H} {a ma : Nat} {st i0 id : Int32} (R : hb_R z sz dyn mu G n1 n2 s h) (hn : nw_at dyn G h a 10 [.ref ma, .int st, .int i0]) (k : ∀ (h' : ev_H), hb_R z sz dyn mu G n1 n2 s h' → hb_E dyn G h G h' → nw_at dyn G h' a 10 [.ref ma, .int 1, .int id] → Q (none, h')) : ev_M (mf_R_start z) [.ref a, .int id] h Q := by
  refine ev_M.go rfl rfl ?_
  refine ev_W.fn rfl rfl ?_
  refine ev_W.fn rfl rfl ?_
  refine ev_W.putf rfl hn.1 rfl rfl rfl ?_
  refine ev_W.fn rfl rfl ?_
  refine ev_W.fn rfl rfl ?_
  refine ev_W.putf rfl ev_put_same rfl rfl rfl ?_
  refine ev_W.ret rfl rfl ?_
  rw [ev_put_put]
  exact k _ (R.pu hn.2.2 (R.1.1 a _ hn.1) hn.2.1 _) (hb_E.pu hn.2.1 _) ⟨ev_put_same, hn.2.1, hn.2.2⟩
theorem M_ck_app (A : List hb_Sb) (x : hb_Sb) (m : hb_Ms) (own : Bool) : M_ck (A ++ [x]) m own = M_ck A m own + (if 0 < M_cq x m own then 1 else 0) := by
  unfold M_ck
  rw [List.filter_append, List.length_append]
  by_cases q : 0 < M_cq x m own <;> simp [q]
theorem sp_ck_loop {n1 n2 : Nat} {G : hb_G} {s : hb_S} {h : ev_H} {ma : Nat} {m : hb_Ms} {own : Bool} (R : hb_R z sz dyn mu G n1 n2 s h) (hc : c < 3) (hm : ms_at dyn G h ma m) (k : Q (some (.int (nI (M_ck (sB s c) m own))), h)) : ∀ (B A : List hb_Sb), sB s c = A ++ B → ev_W (mk_S_countKept z) (5, [some (.ref (sz + (29 + 6 * c))), some (.ref ma), some (.int (zb own)), some (.int (nI (M_ck A m own))), some (.int (nI A.length))], [], h) Q := by
  have hlen := R.blen hc
  intro B
  induction B with
  | nil =>
    intro A hs
    rw [List.append_nil] at hs
    rw [hs] at k
    refine ev_W.fn rfl rfl ?_
    refine ev_W.fn rfl rfl ?_
    refine ev_W.obj rfl (R.o7 hc) rfl ?_
    refine ev_W.clR rfl rfl rfl rfl rfl (R.lo (bl_lt hc)) ?_
    refine R.bsize hc ?_
    refine ev_W.brT rfl rfl (nI_le (by rw [hs]; exact Nat.le_refl _) (by rw [hs] at hlen; omega)) ?_
    refine ev_W.fn rfl rfl ?_
    refine ev_W.ret rfl rfl ?_
    exact k
  | cons x B ih =>
    intro A hs
    have hix : (sB s c)[A.length]? = some x := by rw [hs]; simp
    have hL : (sB s c).length = A.length + 1 + B.length := by rw [hs]; simp; omega
    have nx := ih (A ++ [x]) (by rw [hs]; simp)
    rw [M_ck_app, List.length_append] at nx
    have e2 : nI (A.length + [x].length) = nI A.length + 1 := (nI_1 _).symm
    rw [e2] at nx
    refine ev_W.fn rfl rfl ?_
    refine ev_W.fn rfl rfl ?_
    refine ev_W.obj rfl (R.o7 hc) rfl ?_
    refine ev_W.clR rfl rfl rfl rfl rfl (R.lo (bl_lt hc)) ?_
    refine R.bsize hc ?_
    refine ev_W.brF rfl rfl (nI_ge (by omega) (by omega)) ?_
    refine ev_W.fn rfl rfl ?_
    refine ev_W.obj rfl (R.o7 hc) rfl ?_
    refine ev_W.fn rfl rfl ?_
    refine ev_W.clR rfl rfl rfl rfl rfl (R.lo (bl_lt hc)) ?_
    refine R.bget hc hix (fun a1 ha1 hp1 => ?_)
    refine ev_W.cast rfl hp1.1 ?_
    refine ev_W.fn rfl rfl ?_
    refine ev_W.fn rfl rfl ?_
    refine ev_W.clR rfl rfl rfl rfl rfl hp1.1 ?_
    refine sp_U_cq hp1 hm ?_
    refine ev_W.br rfl rfl (fun h1 => ?_) (fun h1 => ?_)
    · rw [if_neg (Int32.not_lt.mpr h1), Nat.add_zero] at nx
      refine ev_W.fn rfl rfl ?_
      refine ev_W.fn rfl rfl ?_
      exact nx
    · refine ev_W.fn rfl rfl ?_
      rw [if_pos (Int32.not_le.mp h1), ← nI_1] at nx
      refine ev_W.fn rfl rfl ?_
      refine ev_W.fn rfl rfl ?_
      exact nx
theorem sp_S_countKept {n1 n2 : Nat} {G : hb_G} {s : hb_S} {h : ev_H} {ma : Nat} {m : hb_Ms} {own : Bool} (R : hb_R z sz dyn mu G n1 n2 s h) (hc : c < 3) (hm : ms_at dyn G h ma m) (k : Q (some (.int (nI (M_ck (sB s c) m own))), h)) : ev_M (mf_S_countKept z) [.ref (sz + (29 + 6 * c)), .ref ma, .int (zb own)] h Q := by
  refine ev_M.go rfl rfl ?_
  refine ev_W.fn rfl rfl ?_
  refine ev_W.fn rfl rfl ?_
  refine ev_W.fn rfl rfl ?_
  refine ev_W.fn rfl rfl ?_
  exact sp_ck_loop R hc hm k (sB s c) [] rfl
set_option maxHeartbeats 800000 in
theorem sp_pm_loop (hc : c < 3) {w : Int32} (hw : w ≤ 3) : ∀ (n n1 n2 : Nat) (G : hb_G) (s : hb_S) (h : ev_H) (x5 : Option Value), hb_R z sz dyn mu G n1 n2 s h → (sM s c).length = n → (sN s (2 * c + 1)).length ≤ 17 + (sP s (3 + c)).length → (∀ (G' : hb_G) (h' : ev_H), hb_R z sz dyn mu G' (n1 + 4 * (3 - (sP s (3 + c)).length)) (n2 + 93 * (3 - (sP s (3 + c)).length)) (M_pm n s c w) h' → hb_E dyn G h G' h' → Q (none, h')) → ev_W (mk_B_pump z) (42, [some (.ref (sz + 24)), some (.int (nI c)), some (.ref (sz + (29 + 6 * c))), some (.int w), some (.int (nI (sP s (3 + c)).length)), x5], [], h) Q := by
  intro n
  induction n with
  | zero =>
    intro n1 n2 G s h x5 R hn hd k
    have hP := R.plen (l := 3 + c) (by omega)
    have he : sM s c = [] := List.length_eq_zero_iff.mp hn
    refine ev_W.fn rfl rfl ?_
    refine ev_W.fn rfl rfl ?_
    refine ev_W.br rfl rfl (fun h1 => ?_) (fun h1 => ?_)
    · refine ev_W.ret rfl rfl ?_
      exact k _ _ (R.up (by omega) (by omega)) hb_E.rf
    · refine ev_W.fn rfl rfl ?_
      refine ev_W.obj rfl (R.o7 hc) rfl ?_
      refine ev_W.clR rfl rfl rfl rfl rfl (R.lo (hb_mj_lt (by omega))) ?_
      refine R.mempty (by omega) ?_
      refine ev_W.brT rfl rfl (by rw [he]; decide) ?_
      refine ev_W.ret rfl rfl ?_
      exact k _ _ (R.up (by omega) (by omega)) hb_E.rf
  | succ n ih =>
    intro n1 n2 G s h x5 R hn hd k
    have hP := R.plen (l := 3 + c) (by omega)
    rw [M_pm] at k
    obtain ⟨m, q, hmq⟩ : ∃ m q, sM s c = m :: q := by
      cases hq : sM s c with
      | nil => rw [hq] at hn; simp at hn
      | cons m q => exact ⟨m, q, rfl⟩
    have hm0 : (sM s c)[0]? = some m := by rw [hmq]; rfl
    have hqe : (sM s c).eraseIdx 0 = q := by rw [hmq]; rfl
    have hql : q.length = n := by rw [hmq] at hn; simpa using hn
    refine ev_W.fn rfl rfl ?_
    refine ev_W.fn rfl rfl ?_
    refine ev_W.br rfl rfl (fun h1 => ?_) (fun h1 => ?_)
    · refine ev_W.ret rfl rfl ?_
      rw [if_pos h1] at k
      exact k _ _ (R.up (by omega) (by omega)) hb_E.rf
    · have h1w : nI (sP s (3 + c)).length < w := Int32.not_le.mp h1
      have hu3 : (sP s (3 + c)).length < 3 := by
        have := Int32.lt_of_lt_of_le h1w hw
        exact (nI_ltI (b := 3) (by omega) (by decide)).mp this
      rw [if_neg h1, hmq] at k
      dsimp only at k
      refine ev_W.fn rfl rfl ?_
      refine ev_W.obj rfl (R.o7 hc) rfl ?_
      refine ev_W.clR rfl rfl rfl rfl rfl (R.lo (hb_mj_lt (by omega))) ?_
      refine R.mempty (by omega) ?_
      refine ev_W.brF rfl rfl (by rw [hmq]; exact fun q => q rfl) ?_
      refine ev_W.nw R rfl (fun G1 u1 a1 R1 E1 na1 => ?_)
      refine ev_W.fn rfl rfl ?_
      refine ev_W.fn rfl rfl ?_
      refine ev_W.obj rfl (R1.o7 hc) rfl ?_
      refine ev_W.fn rfl rfl ?_
      refine ev_W.clR rfl rfl rfl rfl rfl (R1.lo (hb_mj_lt (by omega))) ?_
      refine R1.mrem9 (by omega) hm0 (fun G2 u2 a2 hqm R2 E2 n92 => ?_)
      have nb := n92 _ _ _ na1
      rw [hqe] at R2
      refine ev_W.cast rfl hqm.1 ?_
      refine ev_W.clI rfl rfl rfl rfl rfl ?_
      refine sp_R_new R2 nb (fun u3 R3 E3 hq => ?_)
      have hqm := E3.ms R2 hqm
      refine ev_W.fn rfl rfl ?_
      refine ev_W.fn rfl rfl ?_
      refine ev_W.fn rfl rfl ?_
      refine ev_W.obj rfl (R3.o7 hc) rfl ?_
      refine ev_W.cl rfl rfl rfl rfl rfl ?_
      refine sp_R_leastFreeId R3 (by omega) ?_
      refine ev_W.clR rfl rfl rfl rfl rfl hq.1 ?_
      refine sp_R_st9 R3 hq (fun u4 R4 E4 hq => ?_)
      have hqm := E4.ms R3 hqm
      refine ev_W.fn rfl rfl ?_
      refine ev_W.obj rfl (R4.o7 hc) rfl ?_
      refine ev_W.fn rfl rfl ?_
      refine ev_W.clR rfl rfl rfl rfl rfl (R4.lo (hb_pj_lt (by omega))) ?_
      refine R4.padd (x := (m, 1, nI (pa_id (sP s (3 + c))))) (by omega) (show (sP s (3 + c)).length ≤ 20 by omega) hq.1 hq.2.1 hq.2.2 hqm (fun G5 u5 R5 E5 hcell => ?_)
      have hqm := E5.ms R4 hqm
      have hq := And.intro hcell trivial
      refine ev_W.fn rfl rfl ?_
      refine ev_W.fn rfl rfl ?_
      refine ev_W.fn rfl rfl ?_
      refine ev_W.fn rfl rfl ?_
      refine ev_W.obj rfl hq.1 rfl ?_
      refine ev_W.fn rfl rfl ?_
      refine ev_W.obj rfl hq.1 rfl ?_
      refine ev_W.fn rfl rfl ?_
      refine ev_W.cl rfl rfl rfl rfl rfl ?_
      refine sp_P_ofM (ag := false) R5 hqm (fun G6 u6 a6 R6 E6 hp6 => ?_)
      have hqm := E6.ms R5 hqm
      refine ev_W.clR rfl rfl rfl rfl rfl R6.o5 ?_
      refine sp_B_send R6 hc (show (sN s (2 * c + 1)).length ≤ 20 by omega) hp6 (fun G7 u7 R7 E7 => ?_)
      have hqm := E7.ms R6 hqm
      have hp6 := E7.pk R6 hp6
      refine ev_W.fn rfl rfl ?_
      refine ev_W.fn rfl rfl ?_
      have eP : sP (M_st s c m q) (3 + c) = sP s (3 + c) ++ [(m, 1, nI (pa_id (sP s (3 + c))))] := by unfold M_st; rw [sP_send]; simp [st_a]
      have eM : sM (M_st s c m q) c = q := by unfold M_st; rw [sM_send]; simp [st_a]
      have eN : (sN (M_st s c m q) (2 * c + 1)).length ≤ (sN s (2 * c + 1)).length + 1 := sN_send_len _ _ _
      have := ih _ _ _ (M_st s c m q) _ (some (.ref a1)) R7 (by rw [eM]; exact hql) (by rw [eP, List.length_append]; simp only [List.length_singleton]; omega) (fun G' h' R' E' => k G' h' (R'.up (by rw [eP, List.length_append]; simp only [List.length_singleton]; omega) (by rw [eP, List.length_append]; simp only [List.length_singleton]; omega)) ((E1.tr (E2.tr (E3.tr (E4.tr (E5.tr (E6.tr E7)))))).tr E'))
      rw [eP, List.length_append] at this
      have e2 : nI ((sP s (3 + c)).length + [(m, (1 : Int32), nI (pa_id (sP s (3 + c))))].length) = nI (sP s (3 + c)).length + 1 := (nI_1 _).symm
      rw [e2] at this
      exact this
theorem sp_B_pump {n1 n2 : Nat} {G : hb_G} {s : hb_S} {h : ev_H} (R : hb_R z sz dyn mu G n1 n2 s h) (hc : c < 3) (hw : sI s 6 c ≤ 3) (hd : (sN s (2 * c + 1)).length ≤ 17 + (sP s (3 + c)).length) (k : ∀ (G' : hb_G) (h' : ev_H), hb_R z sz dyn mu G' (n1 + 12) (n2 + 279) (M_pump s c) h' → hb_E dyn G h G' h' → Q (none, h')) : ev_M (mf_B_pump z) [.ref (sz + 24), .int (nI c)] h Q := by
  unfold M_pump M_win at k
  refine ev_M.go rfl rfl ?_
  refine ev_W.fn rfl rfl ?_
  refine ev_W.obj rfl R.o5 rfl ?_
  refine ev_W.fn rfl rfl ?_
  refine ev_W.sk R hc rfl ?_
  refine ev_W.fn rfl rfl ?_
  refine ev_W.fn rfl rfl ?_
  refine ev_W.obj rfl R.o5 rfl ?_
  refine ev_W.fn rfl rfl ?_
  refine ev_W.lk R hc rfl ?_
  refine ev_W.obj rfl (R.o1 hc) rfl ?_
  refine ev_W.br rfl rfl (fun h1 => ?_) (fun h1 => ?_)
  · rw [if_pos h1] at k
    refine ev_W.fn rfl rfl ?_
    refine ev_W.fn rfl rfl ?_
    refine ev_W.fn rfl rfl ?_
    refine ev_W.obj rfl (R.o7 hc) rfl ?_
    refine ev_W.clR rfl rfl rfl rfl rfl (R.lo (hb_pj_lt (by omega))) ?_
    refine R.psize (by omega) ?_
    refine ev_W.fn rfl rfl ?_
    exact sp_pm_loop hc (by decide) _ _ _ _ s _ _ R rfl hd (fun G' h' R' E' => k _ _ (R'.up (by omega) (by omega)) E')
  · rw [if_neg h1] at k
    refine ev_W.fn rfl rfl ?_
    refine ev_W.obj rfl R.o5 rfl ?_
    refine ev_W.fn rfl rfl ?_
    refine ev_W.nk R hc rfl ?_
    refine ev_W.obj rfl (R.o6 hc) rfl ?_
    refine ev_W.fn rfl rfl ?_
    refine ev_W.fn rfl rfl ?_
    refine ev_W.fn rfl rfl ?_
    refine ev_W.obj rfl (R.o7 hc) rfl ?_
    refine ev_W.clR rfl rfl rfl rfl rfl (R.lo (hb_pj_lt (by omega))) ?_
    refine R.psize (by omega) ?_
    refine ev_W.fn rfl rfl ?_
    exact sp_pm_loop hc hw _ _ _ _ s _ _ R rfl hd (fun G' h' R' E' => k _ _ (R'.up (by omega) (by omega)) E')
theorem M_sp1_ok (s : hb_S) (c : Nat) (x : hb_Sb) (m : hb_Ms) (own : Bool) : sI (M_sp1 s c x m own) = sI s ∧ sJ (M_sp1 s c x m own) = sJ s ∧ sX (M_sp1 s c x m own) = sX s ∧ sP (M_sp1 s c x m own) = sP s ∧ sB (M_sp1 s c x m own) = sB s ∧ (∀ l, l ≠ 2 * c + 1 → sN (M_sp1 s c x m own) l = sN s l) ∧ (∀ l, l ≠ c → sM (M_sp1 s c x m own) l = sM s l) ∧ (sM (M_sp1 s c x m own) c).length = (sM s c).length + (if 0 < M_cq x m own then 1 else 0) ∧ ((sN (M_sp1 s c x m own) (2 * c + 1)).length ≤ 12 ∨ (sN (M_sp1 s c x m own) (2 * c + 1)).length ≤ (sN s (2 * c + 1)).length) := by
  unfold M_sp1
  split
  · rename_i hq
    have h0 : ¬ (0 : Int32) < M_cq x m own := by rw [hq.1]; decide
    refine ⟨sI_send _ _ _, sJ_send _ _ _, sX_send _ _ _, sP_send _ _ _, sB_send _ _ _, fun l hl => sN_send_ne _ _ _ hl, fun l _ => by rw [sM_send], by rw [sM_send, if_neg h0]; rfl, Or.inl ?_⟩
    have := sN_send_len s c (M_pkt (m.1, m.2.1, 0, false) 0 false)
    omega
  · split
    · rename_i h0
      refine ⟨rfl, rfl, rfl, rfl, rfl, fun _ _ => rfl, fun l hl => by simp [st_a, hl], by simp [st_a], Or.inr (Nat.le_refl _)⟩
    · rename_i h0
      exact ⟨rfl, rfl, rfl, rfl, rfl, fun _ _ => rfl, fun _ _ => rfl, rfl, Or.inr (Nat.le_refl _)⟩
theorem M_spr_ok : ∀ (B : List hb_Sb) (s : hb_S) (c : Nat) (m : hb_Ms) (own : Bool), sI (M_spr B s c m own) = sI s ∧ sJ (M_spr B s c m own) = sJ s ∧ sX (M_spr B s c m own) = sX s ∧ sP (M_spr B s c m own) = sP s ∧ sB (M_spr B s c m own) = sB s ∧ (∀ l, l ≠ 2 * c + 1 → sN (M_spr B s c m own) l = sN s l) ∧ (∀ l, l ≠ c → sM (M_spr B s c m own) l = sM s l) ∧ (sM (M_spr B s c m own) c).length = (sM s c).length + M_ck B m own ∧ ((sN (M_spr B s c m own) (2 * c + 1)).length ≤ 12 ∨ (sN (M_spr B s c m own) (2 * c + 1)).length ≤ (sN s (2 * c + 1)).length) := by
  intro B
  induction B with
  | nil => intro s c m own; exact ⟨rfl, rfl, rfl, rfl, rfl, fun _ _ => rfl, fun _ _ => rfl, rfl, Or.inr (Nat.le_refl _)⟩
  | cons x B ih =>
    intro s c m own
    obtain ⟨a1, a2, a3, a4, a5, a6, a7, a8, a9⟩ := M_sp1_ok s c x m own
    obtain ⟨b1, b2, b3, b4, b5, b6, b7, b8, b9⟩ := ih (M_sp1 s c x m own) c m own
    rw [M_spr]
    refine ⟨b1.trans a1, b2.trans a2, b3.trans a3, b4.trans a4, b5.trans a5, fun l hl => (b6 l hl).trans (a6 l hl), fun l hl => (b7 l hl).trans (a7 l hl), ?_, by omega⟩
    rw [b8, a8]
    unfold M_ck
    by_cases q : 0 < M_cq x m own
    · simp [q]; omega
    · simp [q]
theorem M_ck_le (l : List hb_Sb) (m : hb_Ms) (own : Bool) : M_ck l m own ≤ l.length := List.length_filter_le _ _
set_option maxHeartbeats 800000 in
theorem sp_spr_loop (hc : c < 3) {ma : Nat} {m : hb_Ms} {own : Bool} : ∀ (B A : List hb_Sb) (n1 n2 : Nat) (G : hb_G) (s : hb_S) (h : ev_H) (x6 : Option Value), hb_R z sz dyn mu G n1 n2 s h → ms_at dyn G h ma m → sB s c = A ++ B → (sM s c).length + B.length ≤ 20 → (∀ (G' : hb_G) (h' : ev_H), hb_R z sz dyn mu G' (n1 + 3 * B.length) (n2 + 54 * B.length) (M_spr B s c m own) h' → hb_E dyn G h G' h' → Q (none, h')) → ev_W (mk_B_spread z) (14, [some (.ref (sz + 24)), some (.int (nI c)), some (.ref ma), some (.int (zb own)), some (.ref (sz + hb_ro (9 + c))), some (.int (nI A.length)), x6], [], h) Q := by
  intro B
  induction B with
  | nil =>
    intro A n1 n2 G s h x6 R hm hs hl k
    have hlen := R.blen hc
    rw [List.append_nil] at hs
    refine ev_W.fn rfl rfl ?_
    refine ev_W.fn rfl rfl ?_
    refine ev_W.clR rfl rfl rfl rfl rfl (R.lo (bl_lt hc)) ?_
    refine R.bsize hc ?_
    refine ev_W.brT rfl rfl (nI_le (by rw [hs]; exact Nat.le_refl _) (by rw [hs] at hlen; omega)) ?_
    refine ev_W.ret rfl rfl ?_
    exact k _ _ R hb_E.rf
  | cons x B ih =>
    intro A n1 n2 G s h x6 R hm hs hl k
    have hlen := R.blen hc
    have hix : (sB s c)[A.length]? = some x := by rw [hs]; simp
    have hL : (sB s c).length = A.length + 1 + B.length := by rw [hs]; simp; omega
    rw [List.length_cons] at hl k
    obtain ⟨a1, a2, a3, a4, a5, a6, a7, a8, a9⟩ := M_sp1_ok s c x m own
    have next : ∀ (G2 : hb_G) (h2 : ev_H) (y : Option Value), hb_R z sz dyn mu G2 (n1 + 3) (n2 + 54) (M_sp1 s c x m own) h2 → hb_E dyn G h G2 h2 → ms_at dyn G2 h2 ma m → ev_W (mk_B_spread z) (98, [some (.ref (sz + 24)), some (.int (nI c)), some (.ref ma), some (.int (zb own)), some (.ref (sz + hb_ro (9 + c))), some (.int (nI A.length)), y], [], h2) Q := by
      intro G2 h2 y R2 E2 hm2
      refine ev_W.fn rfl rfl ?_
      refine ev_W.fn rfl rfl ?_
      have := ih (A ++ [x]) _ _ G2 (M_sp1 s c x m own) h2 y R2 hm2 (by rw [a5, hs]; simp) (by rw [a8]; split <;> omega) (fun G' h' R' E' => k G' h' (R'.up (by omega) (by omega)) (E2.tr E'))
      rw [List.length_append] at this
      have e2 : nI (A.length + [x].length) = nI A.length + 1 := (nI_1 _).symm
      rw [e2] at this
      exact this
    refine ev_W.fn rfl rfl ?_
    refine ev_W.fn rfl rfl ?_
    refine ev_W.clR rfl rfl rfl rfl rfl (R.lo (bl_lt hc)) ?_
    refine R.bsize hc ?_
    refine ev_W.brF rfl rfl (nI_ge (by omega) (by omega)) ?_
    refine ev_W.fn rfl rfl ?_
    refine ev_W.fn rfl rfl ?_
    refine ev_W.clR rfl rfl rfl rfl rfl (R.lo (bl_lt hc)) ?_
    refine R.bget hc hix (fun a1 ha1 hp1 => ?_)
    refine ev_W.cast rfl hp1.1 ?_
    refine ev_W.fn rfl rfl ?_
    refine ev_W.fn rfl rfl ?_
    refine ev_W.clR rfl rfl rfl rfl rfl hp1.1 ?_
    refine sp_U_cq hp1 hm ?_
    refine ev_W.fn rfl rfl ?_
    refine ev_W.fn rfl rfl ?_
    refine ev_W.br rfl rfl (fun h1 => ?_) (fun h1 => ?_)
    · refine ev_W.fn rfl rfl ?_
      refine ev_W.br rfl rfl (fun h3 => ?_) (fun h3 => ?_)
      · exact next _ _ _ (by rw [M_sp1, if_neg (fun q => h1 q.1), if_neg (Int32.not_lt.mpr h3)]; exact R.up (by omega) (by omega)) hb_E.rf hm
      · have h3 := Int32.not_le.mp h3
        refine ev_W.fn rfl rfl ?_
        refine ev_W.obj rfl R.o5 rfl ?_
        refine ev_W.fn rfl rfl ?_
        refine ev_W.sk R hc rfl ?_
        refine ev_W.obj rfl (R.o7 hc) rfl ?_
        refine ev_W.fn rfl rfl ?_
        refine ev_W.fn rfl rfl ?_
        refine ev_W.fn rfl rfl ?_
        refine ev_W.clR rfl rfl rfl rfl rfl hm.1 ?_
        refine sp_M_cp (rt := false) R hm (fun G2 u2 a2 R2 E2 hp2 => ?_)
        have hm := E2.ms R hm
        refine ev_W.clR rfl rfl rfl rfl rfl (R2.lo (hb_mj_lt (by omega))) ?_
        refine R2.madd (by omega) (show (sM s c).length ≤ 20 by omega) hp2 (fun G3 u3 R3 E3 => ?_)
        have hm := E3.ms R2 hm
        have hp2 := E3.ms R2 hp2
        refine ev_W.fn rfl rfl ?_
        exact next _ _ _ (by rw [M_sp1, if_neg (fun q => h1 q.1), if_pos h3]; exact R3.up (by omega) (by omega)) (E2.tr E3) hm
    · have h1 := Decidable.not_not.mp h1
      refine ev_W.fn rfl rfl ?_
      refine ev_W.fn rfl rfl ?_
      refine ev_W.clR rfl rfl rfl rfl rfl R.o5 ?_
      refine sp_B_hasLineRoom R hc ?_
      refine ev_W.br rfl rfl (fun h2 => ?_) (fun h2 => ?_)
      · have h2 : ¬ (sN s (2 * c + 1)).length < 12 := of_decide_eq_false (zb_n0.mp h2)
        refine ev_W.fn rfl rfl ?_
        refine ev_W.br rfl rfl (fun h3 => ?_) (fun h3 => ?_)
        · exact next _ _ _ (by rw [M_sp1, if_neg (fun q => h2 q.2), if_neg (Int32.not_lt.mpr h3)]; exact R.up (by omega) (by omega)) hb_E.rf hm
        · have h3 := Int32.not_le.mp h3
          refine ev_W.fn rfl rfl ?_
          refine ev_W.obj rfl R.o5 rfl ?_
          refine ev_W.fn rfl rfl ?_
          refine ev_W.sk R hc rfl ?_
          refine ev_W.obj rfl (R.o7 hc) rfl ?_
          refine ev_W.fn rfl rfl ?_
          refine ev_W.fn rfl rfl ?_
          refine ev_W.fn rfl rfl ?_
          refine ev_W.clR rfl rfl rfl rfl rfl hm.1 ?_
          refine sp_M_cp (rt := false) R hm (fun G4 u4 a4 R4 E4 hp4 => ?_)
          have hm := E4.ms R hm
          refine ev_W.clR rfl rfl rfl rfl rfl (R4.lo (hb_mj_lt (by omega))) ?_
          refine R4.madd (by omega) (show (sM s c).length ≤ 20 by omega) hp4 (fun G5 u5 R5 E5 => ?_)
          have hm := E5.ms R4 hm
          have hp4 := E5.ms R4 hp4
          refine ev_W.fn rfl rfl ?_
          exact next _ _ _ (by rw [M_sp1, if_neg (fun q => h2 q.2), if_pos h3]; exact R5.up (by omega) (by omega)) (E4.tr E5) hm
      · have h2 : (sN s (2 * c + 1)).length < 12 := of_decide_eq_true (zb_1.mp h2)
        refine ev_W.fn rfl rfl ?_
        refine ev_W.fn rfl rfl ?_
        refine ev_W.fn rfl rfl ?_
        refine ev_W.fn rfl rfl ?_
        refine ev_W.fn rfl rfl ?_
        refine ev_W.clR rfl rfl rfl rfl rfl hm.1 ?_
        refine sp_M_cp (rt := false) R hm (fun G6 u6 a6 R6 E6 hp6 => ?_)
        have hm := E6.ms R hm
        refine ev_W.fn rfl rfl ?_
        refine ev_W.fn rfl rfl ?_
        refine ev_W.cl rfl rfl rfl rfl rfl ?_
        refine sp_P_ofM (ag := false) R6 hp6 (fun G7 u7 a7 R7 E7 hp7 => ?_)
        have hm := E7.ms R6 hm
        have hp6 := E7.ms R6 hp6
        refine ev_W.clR rfl rfl rfl rfl rfl R7.o5 ?_
        refine sp_B_send R7 hc (by omega) hp7 (fun G8 u8 R8 E8 => ?_)
        have hm := E8.ms R7 hm
        have hp6 := E8.ms R7 hp6
        have hp7 := E8.pk R7 hp7
        refine ev_W.fn rfl rfl ?_
        exact next _ _ _ (by rw [M_sp1, if_pos ⟨h1, h2⟩]; exact R8) (E6.tr (E7.tr E8)) hm
theorem sp_B_spread {n1 n2 : Nat} {G : hb_G} {s : hb_S} {h : ev_H} {ma : Nat} {m : hb_Ms} {own : Bool} (R : hb_R z sz dyn mu G n1 n2 s h) (hc : c < 3) (hm : ms_at dyn G h ma m) (hb : (sB s c).length ≤ 4) (hq : (sM s c).length ≤ 16) (k : ∀ (G' : hb_G) (h' : ev_H), hb_R z sz dyn mu G' (n1 + 12) (n2 + 216) (M_spr (sB s c) s c m own) h' → hb_E dyn G h G' h' → Q (none, h')) : ev_M (mf_B_spread z) [.ref (sz + 24), .int (nI c), .ref ma, .int (zb own)] h Q := by
  refine ev_M.go rfl rfl ?_
  refine ev_W.fn rfl rfl ?_
  refine ev_W.obj rfl R.o5 rfl ?_
  refine ev_W.fn rfl rfl ?_
  refine ev_W.sk R hc rfl ?_
  refine ev_W.obj rfl (R.o7 hc) rfl ?_
  refine ev_W.fn rfl rfl ?_
  refine ev_W.fn rfl rfl ?_
  refine ev_W.fn rfl rfl ?_
  exact sp_spr_loop hc (sB s c) [] _ _ _ _ _ _ R hm rfl (by omega) (fun G' h' R' E' => k _ _ (R'.up (by omega) (by omega)) E')
theorem sp_B_give {n1 n2 : Nat} {G : hb_G} {s : hb_S} {h : ev_H} {ma : Nat} {m : hb_Ms} (R : hb_R z sz dyn mu G n1 n2 s h) (hc : c < 3) (hm : ms_at dyn G h ma m) (k : ∀ (G' : hb_G) (h' : ev_H), hb_R z sz dyn mu G' (n1 + 2) (n2 + 50) (M_give s c m) h' → hb_E dyn G h G' h' → Q (none, h')) : ev_M (mf_B_giveRetained z) [.ref (sz + 24), .int (nI c), .ref ma] h Q := by
  obtain ⟨t, v, mq, rt⟩ := m
  have hMl := R.mlen (l := c) (by omega)
  have hPl := R.plen (l := 3 + c) (by omega)
  unfold M_give at k
  dsimp only at k
  refine ev_M.go rfl rfl ?_
  refine ev_W.fn rfl rfl ?_
  refine ev_W.obj rfl hm.1 rfl ?_
  refine ev_W.br rfl rfl (fun h1 => ?_) (fun h1 => ?_)
  · refine ev_W.fn rfl rfl ?_
    refine ev_W.obj rfl hm.1 rfl ?_
    refine ev_W.br rfl rfl (fun h3 => ?_) (fun h3 => ?_)
    · refine ev_W.ret rfl rfl ?_
      exact k _ _ (by rw [if_neg (fun q => h1 q.1), if_neg (fun q => Int32.not_lt.mpr h3 q.1)]; exact R.up (by omega) (by omega)) hb_E.rf
    · have h3 := Int32.not_le.mp h3
      refine ev_W.fn rfl rfl ?_
      refine ev_W.obj rfl R.o5 rfl ?_
      refine ev_W.fn rfl rfl ?_
      refine ev_W.sk R hc rfl ?_
      refine ev_W.clR rfl rfl rfl rfl rfl (R.o7 hc) ?_
      refine sp_S_load R hc ?_
      refine ev_W.fn rfl rfl ?_
      refine ev_W.br rfl rfl (fun h4 => ?_) (fun h4 => ?_)
      · refine ev_W.ret rfl rfl ?_
        exact k _ _ (by rw [if_neg (fun q => h1 q.1), if_neg (fun q => nI_ge (b := 6) q.2 (by decide) h4)]; exact R.up (by omega) (by omega)) hb_E.rf
      · have h4 : (sM s c).length + (sP s (3 + c)).length < 6 := Nat.lt_of_not_le (fun q => h4 (nI_le (a := 6) q (by omega)))
        refine ev_W.fn rfl rfl ?_
        refine ev_W.obj rfl R.o5 rfl ?_
        refine ev_W.fn rfl rfl ?_
        refine ev_W.sk R hc rfl ?_
        refine ev_W.obj rfl (R.o7 hc) rfl ?_
        refine ev_W.fn rfl rfl ?_
        refine ev_W.clR rfl rfl rfl rfl rfl (R.lo (hb_mj_lt (by omega))) ?_
        refine R.madd (by omega) (by omega) hm (fun G1 u1 R1 E1 => ?_)
        refine ev_W.fn rfl rfl ?_
        refine ev_W.ret rfl rfl ?_
        exact k _ _ (by rw [if_neg (fun q => h1 q.1), if_pos ⟨h3, h4⟩]; exact R1.up (by omega) (by omega)) E1
  · have h1 := Decidable.not_not.mp h1
    refine ev_W.fn rfl rfl ?_
    refine ev_W.fn rfl rfl ?_
    refine ev_W.clR rfl rfl rfl rfl rfl R.o5 ?_
    refine sp_B_hasLineRoom R hc ?_
    refine ev_W.br rfl rfl (fun h2 => ?_) (fun h2 => ?_)
    · have h2 : ¬ (sN s (2 * c + 1)).length < 12 := of_decide_eq_false (zb_n0.mp h2)
      refine ev_W.fn rfl rfl ?_
      refine ev_W.obj rfl hm.1 rfl ?_
      refine ev_W.br rfl rfl (fun h3 => ?_) (fun h3 => ?_)
      · refine ev_W.ret rfl rfl ?_
        exact k _ _ (by rw [if_neg (fun q => h2 q.2), if_neg (fun q => Int32.not_lt.mpr h3 q.1)]; exact R.up (by omega) (by omega)) hb_E.rf
      · have h3 := Int32.not_le.mp h3
        refine ev_W.fn rfl rfl ?_
        refine ev_W.obj rfl R.o5 rfl ?_
        refine ev_W.fn rfl rfl ?_
        refine ev_W.sk R hc rfl ?_
        refine ev_W.clR rfl rfl rfl rfl rfl (R.o7 hc) ?_
        refine sp_S_load R hc ?_
        refine ev_W.fn rfl rfl ?_
        refine ev_W.br rfl rfl (fun h4 => ?_) (fun h4 => ?_)
        · refine ev_W.ret rfl rfl ?_
          exact k _ _ (by rw [if_neg (fun q => h2 q.2), if_neg (fun q => nI_ge (b := 6) q.2 (by decide) h4)]; exact R.up (by omega) (by omega)) hb_E.rf
        · have h4 : (sM s c).length + (sP s (3 + c)).length < 6 := Nat.lt_of_not_le (fun q => h4 (nI_le (a := 6) q (by omega)))
          refine ev_W.fn rfl rfl ?_
          refine ev_W.obj rfl R.o5 rfl ?_
          refine ev_W.fn rfl rfl ?_
          refine ev_W.sk R hc rfl ?_
          refine ev_W.obj rfl (R.o7 hc) rfl ?_
          refine ev_W.fn rfl rfl ?_
          refine ev_W.clR rfl rfl rfl rfl rfl (R.lo (hb_mj_lt (by omega))) ?_
          refine R.madd (by omega) (by omega) hm (fun G2 u2 R2 E2 => ?_)
          refine ev_W.fn rfl rfl ?_
          refine ev_W.ret rfl rfl ?_
          exact k _ _ (by rw [if_neg (fun q => h2 q.2), if_pos ⟨h3, h4⟩]; exact R2.up (by omega) (by omega)) E2
    · have h2 : (sN s (2 * c + 1)).length < 12 := of_decide_eq_true (zb_1.mp h2)
      refine ev_W.fn rfl rfl ?_
      refine ev_W.fn rfl rfl ?_
      refine ev_W.fn rfl rfl ?_
      refine ev_W.fn rfl rfl ?_
      refine ev_W.fn rfl rfl ?_
      refine ev_W.cl rfl rfl rfl rfl rfl ?_
      refine sp_P_ofM (ag := false) R hm (fun G3 u3 a3 R3 E3 hp3 => ?_)
      refine ev_W.clR rfl rfl rfl rfl rfl R3.o5 ?_
      refine sp_B_send R3 hc (by omega) hp3 (fun G4 u4 R4 E4 => ?_)
      have hp3 := E4.pk R3 hp3
      refine ev_W.fn rfl rfl ?_
      refine ev_W.ret rfl rfl ?_
      exact k _ _ (by rw [if_pos ⟨h1, h2⟩]; exact R4.up (by omega) (by omega)) (E3.tr E4)
end PU
