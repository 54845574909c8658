/-! What a written state holds; new objects; links, sessions, connections (laid by wip/whole/p72.py). -/
theorem st_a : (∀ (s : hb_S) (k c k2 c2 : Nat) (v : Int32), sI (tI s k c v) k2 c2 = if k2 = k ∧ c2 = c then v else sI s k2 c2) ∧ (∀ (s : hb_S) (k c : Nat) (v : Int64), sI (tJ s k c v) = sI s) ∧ (∀ (s : hb_S) (l : Nat) (v : Nat → Int32), sI (tX s l v) = sI s) ∧ (∀ (s : hb_S) (l : Nat) (v : List hb_Pk), sI (tN s l v) = sI s) ∧ (∀ (s : hb_S) (l : Nat) (v : List hb_Pa), sI (tP s l v) = sI s) ∧ (∀ (s : hb_S) (l : Nat) (v : List hb_Sb), sI (tB s l v) = sI s) ∧ (∀ (s : hb_S) (l : Nat) (v : List hb_Ms), sI (tM s l v) = sI s) ∧ (∀ (s : hb_S) (k c : Nat) (v : Int32), sJ (tI s k c v) = sJ s) ∧ (∀ (s : hb_S) (k c k2 c2 : Nat) (v : Int64), sJ (tJ s k c v) k2 c2 = if k2 = k ∧ c2 = c then v else sJ s k2 c2) ∧ (∀ (s : hb_S) (l : Nat) (v : Nat → Int32), sJ (tX s l v) = sJ s) ∧ (∀ (s : hb_S) (l : Nat) (v : List hb_Pk), sJ (tN s l v) = sJ s) ∧ (∀ (s : hb_S) (l : Nat) (v : List hb_Pa), sJ (tP s l v) = sJ s) ∧ (∀ (s : hb_S) (l : Nat) (v : List hb_Sb), sJ (tB s l v) = sJ s) ∧ (∀ (s : hb_S) (l : Nat) (v : List hb_Ms), sJ (tM s l v) = sJ s) ∧ (∀ (s : hb_S) (k c : Nat) (v : Int32), sX (tI s k c v) = sX s) ∧ (∀ (s : hb_S) (k c : Nat) (v : Int64), sX (tJ s k c v) = sX s) ∧ (∀ (s : hb_S) (l l2 : Nat) (v : Nat → Int32), sX (tX s l v) l2 = if l2 = l then v else sX s l2) ∧ (∀ (s : hb_S) (l : Nat) (v : List hb_Pk), sX (tN s l v) = sX s) ∧ (∀ (s : hb_S) (l : Nat) (v : List hb_Pa), sX (tP s l v) = sX s) ∧ (∀ (s : hb_S) (l : Nat) (v : List hb_Sb), sX (tB s l v) = sX s) ∧ (∀ (s : hb_S) (l : Nat) (v : List hb_Ms), sX (tM s l v) = sX s) ∧ (∀ (s : hb_S) (k c : Nat) (v : Int32), sN (tI s k c v) = sN s) ∧ (∀ (s : hb_S) (k c : Nat) (v : Int64), sN (tJ s k c v) = sN s) ∧ (∀ (s : hb_S) (l : Nat) (v : Nat → Int32), sN (tX s l v) = sN s) ∧ (∀ (s : hb_S) (l l2 : Nat) (v : List hb_Pk), sN (tN s l v) l2 = if l2 = l then v else sN s l2) ∧ (∀ (s : hb_S) (l : Nat) (v : List hb_Pa), sN (tP s l v) = sN s) ∧ (∀ (s : hb_S) (l : Nat) (v : List hb_Sb), sN (tB s l v) = sN s) ∧ (∀ (s : hb_S) (l : Nat) (v : List hb_Ms), sN (tM s l v) = sN s) ∧ (∀ (s : hb_S) (k c : Nat) (v : Int32), sP (tI s k c v) = sP s) ∧ (∀ (s : hb_S) (k c : Nat) (v : Int64), sP (tJ s k c v) = sP s) ∧ (∀ (s : hb_S) (l : Nat) (v : Nat → Int32), sP (tX s l v) = sP s) ∧ (∀ (s : hb_S) (l : Nat) (v : List hb_Pk), sP (tN s l v) = sP s) ∧ (∀ (s : hb_S) (l l2 : Nat) (v : List hb_Pa), sP (tP s l v) l2 = if l2 = l then v else sP s l2) ∧ (∀ (s : hb_S) (l : Nat) (v : List hb_Sb), sP (tB s l v) = sP s) ∧ (∀ (s : hb_S) (l : Nat) (v : List hb_Ms), sP (tM s l v) = sP s) ∧ (∀ (s : hb_S) (k c : Nat) (v : Int32), sB (tI s k c v) = sB s) ∧ (∀ (s : hb_S) (k c : Nat) (v : Int64), sB (tJ s k c v) = sB s) ∧ (∀ (s : hb_S) (l : Nat) (v : Nat → Int32), sB (tX s l v) = sB s) ∧ (∀ (s : hb_S) (l : Nat) (v : List hb_Pk), sB (tN s l v) = sB s) ∧ (∀ (s : hb_S) (l : Nat) (v : List hb_Pa), sB (tP s l v) = sB s) ∧ (∀ (s : hb_S) (l l2 : Nat) (v : List hb_Sb), sB (tB s l v) l2 = if l2 = l then v else sB s l2) ∧ (∀ (s : hb_S) (l : Nat) (v : List hb_Ms), sB (tM s l v) = sB s) ∧ (∀ (s : hb_S) (k c : Nat) (v : Int32), sM (tI s k c v) = sM s) ∧ (∀ (s : hb_S) (k c : Nat) (v : Int64), sM (tJ s k c v) = sM s) ∧ (∀ (s : hb_S) (l : Nat) (v : Nat → Int32), sM (tX s l v) = sM s) ∧ (∀ (s : hb_S) (l : Nat) (v : List hb_Pk), sM (tN s l v) = sM s) ∧ (∀ (s : hb_S) (l : Nat) (v : List hb_Pa), sM (tP s l v) = sM s) ∧ (∀ (s : hb_S) (l : Nat) (v : List hb_Sb), sM (tB s l v) = sM s) ∧ (∀ (s : hb_S) (l l2 : Nat) (v : List hb_Ms), sM (tM s l v) l2 = if l2 = l then v else sM s l2) := ⟨fun _ _ _ _ _ _ => rfl, fun _ _ _ _ => rfl, fun _ _ _ => rfl, fun _ _ _ => rfl, fun _ _ _ => rfl, fun _ _ _ => rfl, fun _ _ _ => rfl, fun _ _ _ _ => rfl, fun _ _ _ _ _ _ => rfl, fun _ _ _ => rfl, fun _ _ _ => rfl, fun _ _ _ => rfl, fun _ _ _ => rfl, fun _ _ _ => rfl, fun _ _ _ _ => rfl, fun _ _ _ _ => rfl, fun _ _ _ _ => rfl, fun _ _ _ => rfl, fun _ _ _ => rfl, fun _ _ _ => rfl, fun _ _ _ => rfl, fun _ _ _ _ => rfl, fun _ _ _ _ => rfl, fun _ _ _ => rfl, fun _ _ _ _ => rfl, fun _ _ _ => rfl, fun _ _ _ => rfl, fun _ _ _ => rfl, fun _ _ _ _ => rfl, fun _ _ _ _ => rfl, fun _ _ _ => rfl, fun _ _ _ => rfl, fun _ _ _ _ => rfl, fun _ _ _ => rfl, fun _ _ _ => rfl, fun _ _ _ _ => rfl, fun _ _ _ _ => rfl, fun _ _ _ => rfl, fun _ _ _ => rfl, fun _ _ _ => rfl, fun _ _ _ _ => rfl, fun _ _ _ => rfl, fun _ _ _ _ => rfl, fun _ _ _ _ => rfl, fun _ _ _ => rfl, fun _ _ _ => rfl, fun _ _ _ => rfl, fun _ _ _ => rfl, fun _ _ _ _ => rfl⟩
section NS
variable {z : Nat × Nat} {sz dyn : Nat} {mu : Nat → Option ev_E} {G : hb_G} {n1 n2 c : Nat} {s : hb_S} {h : ev_H} {C : ev_C} {pc nx : Nat} {L : ev_L} {r : List Value} {Q : ev_O → Prop}
theorem ev_W.nw {ci N : Nat} {fs : List Value} (R : hb_R z sz dyn mu G n1 n2 s h) (hf : ev_find C pc = some (ev_fn (ev_newo ci N fs nx))) (k : ∀ (G' : hb_G) (h' : ev_H) (a : Nat), hb_R z sz dyn mu G' (n1 + 1) (n2 + N) s h' → hb_E dyn G h G' h' → nw_at dyn G' h' a ci fs → ev_W C (nx, L, .ref a :: r, h') Q) : ev_W C (pc, L, r, h) Q :=
  ev_W.fn hf rfl (k (va_up G.1 h.1 99, G.2) _ h.1 (R.new N 99 _) (hb_E.new N 99 _) ⟨ev_new_same, va_up_self _ _ _, R.2.2.2.1⟩)
theorem nw_at.fill {ci a : Nat} {fs : List Value} (R : hb_R z sz dyn mu G n1 n2 s h) (hn : nw_at dyn G h a ci fs) (x : ev_E) : hb_R z sz dyn mu (va_up G.1 a 0, G.2) n1 n2 s (ev_put h a x) ∧ hb_E dyn G h (va_up G.1 a 0, G.2) (ev_put h a x) := by
  obtain ⟨q1, q2, q3⟩ := hn
  exact ⟨(R.pu q3 (R.1.1 a _ q1) q2 x).rec q2, (hb_E.pu q2 x).tr (hb_E.rec q2)⟩
def mkp (ty id va : Int32) : hb_Pk := (ty, id, va, 0, 0, false, false, 0, 0, 0)
theorem sp_P_new {a : Nat} {ty id va : Int32} (R : hb_R z sz dyn mu G n1 n2 s h) (hn : nw_at dyn G h a 8 ff_8) (k : ∀ (G' : hb_G) (h' : ev_H), hb_R z sz dyn mu G' n1 n2 s h' → hb_E dyn G h G' h' → pk_at dyn G' h' a (mkp ty id va) → Q (none, h')) : ev_M (mf_P_init z) [.ref a, .int ty, .int id, .int va] h Q := by
  refine sp_P_init hn.1 ?_
  obtain ⟨a1, a2⟩ := hn.fill R (.inr (8, hb_pkF (ty, id, va, 0, 0, false, false, 0, 0, 0)))
  exact k _ _ a1 a2 ⟨ev_put_same, va_up_self _ _ _, hn.2.2⟩
theorem sp_M_new {a : Nat} {t : Int64} {v q : Int32} {rt : Bool} (R : hb_R z sz dyn mu G n1 n2 s h) (hn : nw_at dyn G h a 9 ff_9) (k : ∀ (G' : hb_G) (h' : ev_H), hb_R z sz dyn mu G' n1 n2 s h' → hb_E dyn G h G' h' → ms_at dyn G' h' a (t, v, q, rt) → Q (none, h')) : ev_M (mf_M_init z) [.ref a, .long t, .int v, .int q, .int (zb rt)] h Q := by
  refine sp_M_init hn.1 ?_
  obtain ⟨a1, a2⟩ := hn.fill R (.inr (9, hb_msF (t, v, q, rt)))
  exact k _ _ a1 a2 ⟨ev_put_same, va_up_self _ _ _, hn.2.2⟩
def M_pkt (m : hb_Ms) (id : Int32) (ag : Bool) : hb_Pk := (3, id, m.2.1, m.1, m.2.2.1, ag, m.2.2.2, 0, 0, 0)
theorem sp_P_ofM {ma : Nat} {m : hb_Ms} {id : Int32} {ag : Bool} (R : hb_R z sz dyn mu G n1 n2 s h) (hm : ms_at dyn G h ma m) (k : ∀ (G' : hb_G) (h' : ev_H) (a : Nat), hb_R z sz dyn mu G' (n1 + 1) (n2 + 10) s h' → hb_E dyn G h G' h' → pk_at dyn G' h' a (M_pkt m id ag) → Q (some (.ref a), h')) : ev_M (mf_P_ofMessage z) [.ref ma, .int id, .int (zb ag)] h Q :=
  sp_P_ofMessage R hm.1 (fun G' h' a R' E' q1 q2 q3 => k G' h' a R' E' ⟨q1, q2, q3⟩)
theorem sp_P_ofF {ty va : Int32} {f : Int64} {nl : Bool} (R : hb_R z sz dyn mu G n1 n2 s h) (k : ∀ (G' : hb_G) (h' : ev_H) (a : Nat), hb_R z sz dyn mu G' (n1 + 1) (n2 + 10) s h' → hb_E dyn G h G' h' → pk_at dyn G' h' a (ty, 0, va, f, 0, false, nl, 0, 0, 0) → Q (some (.ref a), h')) : ev_M (mf_P_ofFilter z) [.int ty, .long f, .int va, .int (zb nl)] h Q :=
  sp_P_ofFilter R (fun G' h' a R' E' q1 q2 q3 => k G' h' a R' E' ⟨q1, q2, q3⟩)
theorem sp_P_ofC {cl : Bool} {ex wi ke wv : Int32} {wt : Int64} (R : hb_R z sz dyn mu G n1 n2 s h) (k : ∀ (G' : hb_G) (h' : ev_H) (a : Nat), hb_R z sz dyn mu G' (n1 + 1) (n2 + 10) s h' → hb_E dyn G h G' h' → pk_at dyn G' h' a (1, 0, ex, wt, 0, false, cl, wi, ke, wv) → Q (some (.ref a), h')) : ev_M (mf_P_ofConnect z) [.int (zb cl), .int ex, .int wi, .int ke, .long wt, .int wv] h Q :=
  sp_P_ofConnect R (fun G' h' a R' E' q1 q2 q3 => k G' h' a R' E' ⟨q1, q2, q3⟩)
theorem sp_M_cp {ma : Nat} {m : hb_Ms} {q : Int32} {rt : Bool} (R : hb_R z sz dyn mu G n1 n2 s h) (hm : ms_at dyn G h ma m) (k : ∀ (G' : hb_G) (h' : ev_H) (a : Nat), hb_R z sz dyn mu G' (n1 + 1) (n2 + 4) s h' → hb_E dyn G h G' h' → ms_at dyn G' h' a (m.1, m.2.1, q, rt) → Q (some (.ref a), h')) : ev_M (mf_M_copy z) [.ref ma, .int q, .int (zb rt)] h Q :=
  sp_M_copy R hm.1 (fun G' h' a R' E' q1 q2 q3 => k G' h' a R' E' ⟨q1, q2, q3⟩)
-- held ids
theorem sp_hc_add {id : Int32} (R : hb_R z sz dyn mu G n1 n2 s h) (hc : c < 3) (k : ∀ h', hb_R z sz dyn mu G n1 n2 (tI s 4 c (sI s 4 c ||| (1 <<< (id &&& 31)))) h' → hb_E dyn G h G h' → Q (none, h')) : ev_M (mf_I_add z) [.ref (sz + (8 + 7 * c)), .int id] h Q := sp_I_add (R.o4 hc) (k _ (R.i4 hc _) (hb_E.fix R (by omega)))
theorem sp_hs_add {id : Int32} (R : hb_R z sz dyn mu G n1 n2 s h) (hc : c < 3) (k : ∀ h', hb_R z sz dyn mu G n1 n2 (tI s 13 c (sI s 13 c ||| (1 <<< (id &&& 31)))) h' → hb_E dyn G h G h' → Q (none, h')) : ev_M (mf_I_add z) [.ref (sz + (33 + 6 * c)), .int id] h Q := sp_I_add (R.o4s hc) (k _ (R.i13 hc _) (hb_E.fix R (by omega)))
theorem sp_hc_rem {id : Int32} (R : hb_R z sz dyn mu G n1 n2 s h) (hc : c < 3) (k : ∀ h', hb_R z sz dyn mu G n1 n2 (tI s 4 c (sI s 4 c &&& ((1 <<< (id &&& 31)) ^^^ (-1)))) h' → hb_E dyn G h G h' → Q (none, h')) : ev_M (mf_I_remove z) [.ref (sz + (8 + 7 * c)), .int id] h Q := sp_I_remove (R.o4 hc) (k _ (R.i4 hc _) (hb_E.fix R (by omega)))
theorem sp_hs_rem {id : Int32} (R : hb_R z sz dyn mu G n1 n2 s h) (hc : c < 3) (k : ∀ h', hb_R z sz dyn mu G n1 n2 (tI s 13 c (sI s 13 c &&& ((1 <<< (id &&& 31)) ^^^ (-1)))) h' → hb_E dyn G h G h' → Q (none, h')) : ev_M (mf_I_remove z) [.ref (sz + (33 + 6 * c)), .int id] h Q := sp_I_remove (R.o4s hc) (k _ (R.i13 hc _) (hb_E.fix R (by omega)))
theorem sp_hc_clr (R : hb_R z sz dyn mu G n1 n2 s h) (hc : c < 3) (k : ∀ h', hb_R z sz dyn mu G n1 n2 (tI s 4 c 0) h' → hb_E dyn G h G h' → Q (none, h')) : ev_M (mf_I_clear z) [.ref (sz + (8 + 7 * c))] h Q := sp_I_clear (R.o4 hc) (k _ (R.i4 hc _) (hb_E.fix R (by omega)))
theorem sp_hs_clr (R : hb_R z sz dyn mu G n1 n2 s h) (hc : c < 3) (k : ∀ h', hb_R z sz dyn mu G n1 n2 (tI s 13 c 0) h' → hb_E dyn G h G h' → Q (none, h')) : ev_M (mf_I_clear z) [.ref (sz + (33 + 6 * c))] h Q := sp_I_clear (R.o4s hc) (k _ (R.i13 hc _) (hb_E.fix R (by omega)))
def M_close (s : hb_S) (c : Nat) : hb_S := tI (tI (tN (tN s (2 * c) []) (2 * c + 1) []) 0 c 0) 1 c 0
theorem sp_L_close (R : hb_R z sz dyn mu G n1 n2 s h) (hc : c < 3) (k : ∀ (G' : hb_G) (h' : ev_H), hb_R z sz dyn mu G' n1 n2 (M_close s c) h' → hb_E dyn G h G' h' → Q (none, h')) : ev_M (mf_L_close z) [.ref (sz + (3 + 7 * c))] h Q := by
  refine ev_M.go rfl rfl ?_
  refine ev_W.fn rfl rfl ?_
  refine ev_W.obj rfl (R.o1 hc) rfl ?_
  refine ev_W.clR rfl rfl rfl rfl rfl (R.lo (nl_lt (by omega))) ?_
  refine R.nclr (by omega) (fun G1 u1 R1 E1 => ?_)
  refine ev_W.fn rfl rfl ?_
  refine ev_W.obj rfl (R1.o1 hc) rfl ?_
  refine ev_W.clR rfl rfl rfl rfl rfl (R1.lo (nl_lt (by omega))) ?_
  refine R1.nclr (by omega) (fun G2 u2 R2 E2 => ?_)
  refine ev_W.fn rfl rfl ?_
  refine ev_W.fn rfl rfl ?_
  refine ev_W.w0 R2 hc rfl (fun u3 R3 E3 => ?_)
  refine ev_W.fn rfl rfl ?_
  refine ev_W.fn rfl rfl ?_
  refine ev_W.w1 R3 hc (Or.inl rfl) rfl (fun u4 R4 E4 => ?_)
  refine ev_W.ret rfl rfl ?_
  exact k _ _ R4 (E1.tr (E2.tr (E3.tr E4)))
def M_send (s : hb_S) (c : Nat) (p : hb_Pk) : hb_S := if sI s 1 c = 0 then s else tN s (2 * c + 1) (sN s (2 * c + 1) ++ [p])
theorem sp_B_send {a : Nat} {p : hb_Pk} (R : hb_R z sz dyn mu G n1 n2 s h) (hc : c < 3) (hlen : (sN s (2 * c + 1)).length ≤ 20) (hp : pk_at dyn G h a p) (k : ∀ (G' : hb_G) (h' : ev_H), hb_R z sz dyn mu G' (n1 + 1) (n2 + 40) (M_send s c p) h' → hb_E dyn G h G' h' → Q (none, h')) : ev_M (mf_B_send z) [.ref (sz + 24), .int (nI c), .ref a] h Q := by
  refine ev_M.go rfl rfl ?_
  refine ev_W.fn rfl rfl ?_
  refine ev_W.obj rfl R.o5 rfl ?_
  refine ev_W.fn rfl rfl ?_
  refine ev_W.lk R hc rfl ?_
  refine ev_W.obj rfl (R.o1 hc) rfl ?_
  refine ev_W.br rfl rfl (fun h1 => ?_) (fun h1 => ?_)
  · refine ev_W.ret rfl rfl ?_
    exact k _ _ (by rw [M_send, if_pos h1]; exact R.up (by omega) (by omega)) hb_E.rf
  · refine ev_W.fn rfl rfl ?_
    refine ev_W.obj rfl R.o5 rfl ?_
    refine ev_W.fn rfl rfl ?_
    refine ev_W.lk R hc rfl ?_
    refine ev_W.obj rfl (R.o1 hc) rfl ?_
    refine ev_W.fn rfl rfl ?_
    refine ev_W.clR rfl rfl rfl rfl rfl (R.lo (nl_lt (by omega))) ?_
    refine R.nadd (by omega) hlen hp (fun G1 u1 R1 E1 => ?_)
    refine ev_W.fn rfl rfl ?_
    refine ev_W.ret rfl rfl ?_
    exact k _ _ (by rw [M_send, if_neg h1]; exact R1) E1
theorem sp_B_hasLineRoom (R : hb_R z sz dyn mu G n1 n2 s h) (hc : c < 3) (k : Q (some (.int (zb (decide ((sN s (2 * c + 1)).length < 12)))), h)) : ev_M (mf_B_hasLineRoom z) [.ref (sz + 24), .int (nI c)] h Q := by
  have hn := R.nlen (l := 2 * c + 1) (by omega)
  refine ev_M.go rfl rfl ?_
  refine ev_W.fn rfl rfl ?_
  refine ev_W.obj rfl R.o5 rfl ?_
  refine ev_W.fn rfl rfl ?_
  refine ev_W.lk R hc rfl ?_
  refine ev_W.obj rfl (R.o1 hc) rfl ?_
  refine ev_W.clR rfl rfl rfl rfl rfl (R.lo (nl_lt (by omega))) ?_
  refine R.nsize (by omega) ?_
  refine ev_W.fn rfl rfl ?_
  refine ev_W.br rfl rfl (fun h1 => ?_) (fun h1 => ?_)
  · refine ev_W.fn rfl rfl ?_
    refine ev_W.zret rfl (Or.inl rfl) ?_
    have q : ¬ (sN s (2 * c + 1)).length < 12 := fun q => nI_ge (b := 12) q (by decide) h1
    simpa [q, zb] using k
  · refine ev_W.fn rfl rfl ?_
    refine ev_W.fn rfl rfl ?_
    refine ev_W.zret rfl (Or.inr rfl) ?_
    have q : (sN s (2 * c + 1)).length < 12 := Nat.lt_of_not_le (fun q => h1 (nI_le (a := 12) q (by omega)))
    simpa [q, zb] using k
def M_end (s : hb_S) (c : Nat) : hb_S := tI (tI (tP (tM (tB s c []) c []) (3 + c) []) 13 c 0) 10 c 0
theorem sp_S_end (R : hb_R z sz dyn mu G n1 n2 s h) (hc : c < 3) (k : ∀ (G' : hb_G) (h' : ev_H), hb_R z sz dyn mu G' n1 n2 (M_end s c) h' → hb_E dyn G h G' h' → Q (none, h')) : ev_M (mf_S_end z) [.ref (sz + (29 + 6 * c))] h Q := by
  refine ev_M.go rfl rfl ?_
  refine ev_W.fn rfl rfl ?_
  refine ev_W.obj rfl (R.o7 hc) rfl ?_
  refine ev_W.clR rfl rfl rfl rfl rfl (R.lo (bl_lt hc)) ?_
  refine R.bclr hc (fun G1 u1 R1 E1 => ?_)
  refine ev_W.fn rfl rfl ?_
  refine ev_W.obj rfl (R1.o7 hc) rfl ?_
  refine ev_W.clR rfl rfl rfl rfl rfl (R1.lo (hb_mj_lt (by omega))) ?_
  refine R1.mclr (by omega) (fun G2 u2 R2 E2 => ?_)
  refine ev_W.fn rfl rfl ?_
  refine ev_W.obj rfl (R2.o7 hc) rfl ?_
  refine ev_W.clR rfl rfl rfl rfl rfl (R2.lo (hb_pj_lt (by omega))) ?_
  refine R2.pclr (by omega) (fun G3 u3 R3 E3 => ?_)
  refine ev_W.fn rfl rfl ?_
  refine ev_W.obj rfl (R3.o7 hc) rfl ?_
  refine ev_W.clR rfl rfl rfl rfl rfl (R3.o4s hc) ?_
  refine sp_hs_clr R3 hc (fun u4 R4 E4 => ?_)
  refine ev_W.fn rfl rfl ?_
  refine ev_W.fn rfl rfl ?_
  refine ev_W.w10 R4 hc (Or.inl rfl) rfl (fun u5 R5 E5 => ?_)
  refine ev_W.ret rfl rfl ?_
  exact k _ _ R5 (E1.tr (E2.tr (E3.tr (E4.tr E5))))
def M_outlive (s : hb_S) (c : Nat) : hb_S := if sI s 11 c = 0 then M_end (tI s 12 c (sI s 11 c)) c else tI s 12 c (sI s 11 c)
theorem sp_S_outlive (R : hb_R z sz dyn mu G n1 n2 s h) (hc : c < 3) (k : ∀ (G' : hb_G) (h' : ev_H), hb_R z sz dyn mu G' n1 n2 (M_outlive s c) h' → hb_E dyn G h G' h' → Q (none, h')) : ev_M (mf_S_outlive z) [.ref (sz + (29 + 6 * c))] h Q := by
  refine ev_M.go rfl rfl ?_
  refine ev_W.fn rfl rfl ?_
  refine ev_W.fn rfl rfl ?_
  refine ev_W.obj rfl (R.o7 hc) rfl ?_
  refine ev_W.w12 R hc rfl (fun u1 R1 E1 => ?_)
  refine ev_W.fn rfl rfl ?_
  refine ev_W.obj rfl (R1.o7 hc) rfl ?_
  refine ev_W.br rfl rfl (fun h1 => ?_) (fun h1 => ?_)
  · refine ev_W.ret rfl rfl ?_
    have h1 : ¬ sI s 11 c = 0 := h1
    exact k _ _ (by rw [M_outlive, if_neg h1]; exact R1) E1
  · refine ev_W.fn rfl rfl ?_
    refine ev_W.clR rfl rfl rfl rfl rfl (R1.o7 hc) ?_
    refine sp_S_end R1 hc (fun G2 u2 R2 E2 => ?_)
    refine ev_W.ret rfl rfl ?_
    have h1 : sI s 11 c = 0 := Decidable.not_not.mp h1
    exact k _ _ (by rw [M_outlive, if_pos h1]; exact R2) (E1.tr E2)
def M_cd (s : hb_S) (c : Nat) : hb_S × Bool := if sI s 10 c = 0 then (s, false) else if 0 < sI s 12 c - 1 then (tI s 12 c (sI s 12 c - 1), false) else (M_end (tI s 12 c (sI s 12 c - 1)) c, true)
theorem sp_S_countDown (R : hb_R z sz dyn mu G n1 n2 s h) (hc : c < 3) (k : ∀ (G' : hb_G) (h' : ev_H), hb_R z sz dyn mu G' n1 n2 (M_cd s c).1 h' → hb_E dyn G h G' h' → Q (some (.int (zb (M_cd s c).2)), h')) : ev_M (mf_S_countDown z) [.ref (sz + (29 + 6 * c))] h Q := by
  unfold M_cd at k
  refine ev_M.go rfl rfl ?_
  refine ev_W.fn rfl rfl ?_
  refine ev_W.obj rfl (R.o7 hc) rfl ?_
  refine ev_W.br rfl rfl (fun h1 => ?_) (fun h1 => ?_)
  · rw [if_neg h1] at k
    refine ev_W.fn rfl rfl ?_
    refine ev_W.fn rfl rfl ?_
    refine ev_W.obj rfl (R.o7 hc) rfl ?_
    refine ev_W.fn rfl rfl ?_
    refine ev_W.fn rfl rfl ?_
    refine ev_W.w12 R hc rfl (fun u1 R1 E1 => ?_)
    refine ev_W.fn rfl rfl ?_
    refine ev_W.obj rfl (R1.o7 hc) rfl ?_
    refine ev_W.br rfl rfl (fun h2 => ?_) (fun h2 => ?_)
    · have h2 : 0 < sI s 12 c - 1 := by simpa [st_a] using h2
      rw [if_pos h2] at k
      refine ev_W.fn rfl rfl ?_
      refine ev_W.obj rfl (R1.o7 hc) rfl ?_
      refine ev_W.brT rfl rfl (by simpa [st_a] using h1) ?_
      refine ev_W.fn rfl rfl ?_
      refine ev_W.zret rfl (Or.inl rfl) ?_
      exact k _ _ R1 E1
    · have h2 : ¬ 0 < sI s 12 c - 1 := by simpa [st_a] using h2
      rw [if_neg h2] at k
      refine ev_W.fn rfl rfl ?_
      refine ev_W.clR rfl rfl rfl rfl rfl (R1.o7 hc) ?_
      refine sp_S_end R1 hc (fun G2 u2 R2 E2 => ?_)
      refine ev_W.fn rfl rfl ?_
      refine ev_W.obj rfl (R2.o7 hc) rfl ?_
      refine ev_W.brF rfl rfl (by simp [M_end, st_a]) ?_
      refine ev_W.fn rfl rfl ?_
      refine ev_W.fn rfl rfl ?_
      refine ev_W.zret rfl (Or.inr rfl) ?_
      exact k _ _ R2 (E1.tr E2)
  · rw [if_pos (Decidable.not_not.mp h1)] at k
    refine ev_W.fn rfl rfl ?_
    refine ev_W.zret rfl (Or.inl rfl) ?_
    exact k _ _ R hb_E.rf
theorem sp_S_load (R : hb_R z sz dyn mu G n1 n2 s h) (hc : c < 3) (k : Q (some (.int (nI ((sM s c).length + (sP s (3 + c)).length))), h)) : ev_M (mf_S_load z) [.ref (sz + (29 + 6 * c))] h Q := by
  rw [← nI_add] at k
  refine ev_M.go rfl rfl ?_
  refine ev_W.fn rfl rfl ?_
  refine ev_W.obj rfl (R.o7 hc) rfl ?_
  refine ev_W.clR rfl rfl rfl rfl rfl (R.lo (hb_mj_lt (by omega))) ?_
  refine R.msize (by omega) ?_
  refine ev_W.fn rfl rfl ?_
  refine ev_W.obj rfl (R.o7 hc) rfl ?_
  refine ev_W.clR rfl rfl rfl rfl rfl (R.lo (hb_pj_lt (by omega))) ?_
  refine R.psize (by omega) ?_
  refine ev_W.fn rfl rfl ?_
  refine ev_W.ret rfl rfl ?_
  exact k
def M_ssum (s : hb_S) (c : Nat) : Int32 := if sI s 10 c = 0 then -1 else nI (sB s c).length + 8 * nI (sM s c).length + 64 * nI (sP s (3 + c)).length + 512 * bi_cnt (sI s 13 c)
theorem sp_S_summary (R : hb_R z sz dyn mu G n1 n2 s h) (hc : c < 3) (k : Q (some (.int (M_ssum s c)), h)) : ev_M (mf_S_summary z) [.ref (sz + (29 + 6 * c))] h Q := by
  unfold M_ssum at k
  refine ev_M.go rfl rfl ?_
  refine ev_W.fn rfl rfl ?_
  refine ev_W.obj rfl (R.o7 hc) rfl ?_
  refine ev_W.br rfl rfl (fun h1 => ?_) (fun h1 => ?_)
  · refine ev_W.fn rfl rfl ?_
    refine ev_W.obj rfl (R.o7 hc) rfl ?_
    refine ev_W.clR rfl rfl rfl rfl rfl (R.lo (bl_lt hc)) ?_
    refine R.bsize hc ?_
    refine ev_W.fn rfl rfl ?_
    refine ev_W.fn rfl rfl ?_
    refine ev_W.obj rfl (R.o7 hc) rfl ?_
    refine ev_W.clR rfl rfl rfl rfl rfl (R.lo (hb_mj_lt (by omega))) ?_
    refine R.msize (by omega) ?_
    refine ev_W.fn rfl rfl ?_
    refine ev_W.fn rfl rfl ?_
    refine ev_W.fn rfl rfl ?_
    refine ev_W.fn rfl rfl ?_
    refine ev_W.obj rfl (R.o7 hc) rfl ?_
    refine ev_W.clR rfl rfl rfl rfl rfl (R.lo (hb_pj_lt (by omega))) ?_
    refine R.psize (by omega) ?_
    refine ev_W.fn rfl rfl ?_
    refine ev_W.fn rfl rfl ?_
    refine ev_W.fn rfl rfl ?_
    refine ev_W.fn rfl rfl ?_
    refine ev_W.obj rfl (R.o7 hc) rfl ?_
    refine ev_W.clR rfl rfl rfl rfl rfl (R.o4s hc) ?_
    refine sp_I_count (R.o4s hc) ?_
    refine ev_W.fn rfl rfl ?_
    refine ev_W.fn rfl rfl ?_
    refine ev_W.ret rfl rfl ?_
    rw [if_neg h1] at k
    exact k
  · refine ev_W.fn rfl rfl ?_
    refine ev_W.ret rfl rfl ?_
    rw [if_pos (Decidable.not_not.mp h1)] at k
    exact k
def M_begin (s : hb_S) (c : Nat) (p : hb_Pk) : hb_S := tI (tJ (tI (tI (tI (tI s 5 c 1) 6 c p.2.2.2.2.2.2.2.1) 7 c 0) 8 c p.2.2.2.2.2.2.2.2.1) 1 c p.2.2.2.1) 9 c p.2.2.2.2.2.2.2.2.2
theorem sp_N_begin {a : Nat} {p : hb_Pk} (R : hb_R z sz dyn mu G n1 n2 s h) (hc : c < 3) (hp : pk_at dyn G h a p) (k : ∀ (G' : hb_G) (h' : ev_H), hb_R z sz dyn mu G' n1 n2 (M_begin s c p) h' → hb_E dyn G h G' h' → Q (none, h')) : ev_M (mf_N_begin z) [.ref (sz + (28 + 6 * c)), .ref a] h Q := by
  obtain ⟨ty, id, va, tx, qu, ag, mr, wi, ke, wv⟩ := p
  refine ev_M.go rfl rfl ?_
  refine ev_W.fn rfl rfl ?_
  refine ev_W.fn rfl rfl ?_
  refine ev_W.w5 R hc (Or.inr rfl) rfl (fun u1 R1 E1 => ?_)
  have hp := E1.pk R hp
  refine ev_W.fn rfl rfl ?_
  refine ev_W.fn rfl rfl ?_
  refine ev_W.obj rfl hp.1 rfl ?_
  refine ev_W.w6 R1 hc rfl (fun u2 R2 E2 => ?_)
  have hp := E2.pk R1 hp
  refine ev_W.fn rfl rfl ?_
  refine ev_W.fn rfl rfl ?_
  refine ev_W.w7 R2 hc rfl (fun u3 R3 E3 => ?_)
  have hp := E3.pk R2 hp
  refine ev_W.fn rfl rfl ?_
  refine ev_W.fn rfl rfl ?_
  refine ev_W.obj rfl hp.1 rfl ?_
  refine ev_W.w8 R3 hc rfl (fun u4 R4 E4 => ?_)
  have hp := E4.pk R3 hp
  refine ev_W.fn rfl rfl ?_
  refine ev_W.fn rfl rfl ?_
  refine ev_W.obj rfl hp.1 rfl ?_
  refine ev_W.wj1 R4 hc rfl (fun u5 R5 E5 => ?_)
  have hp := E5.pk R4 hp
  refine ev_W.fn rfl rfl ?_
  refine ev_W.fn rfl rfl ?_
  refine ev_W.obj rfl hp.1 rfl ?_
  refine ev_W.w9 R5 hc rfl (fun u6 R6 E6 => ?_)
  have hp := E6.pk R5 hp
  refine ev_W.ret rfl rfl ?_
  exact k _ _ R6 (E1.tr (E2.tr (E3.tr (E4.tr (E5.tr E6)))))
def M_gs (s : hb_S) (c : Nat) : hb_S × Bool := if sI s 8 c = 0 then (s, false) else (tI s 7 c (sI s 7 c + 1), !decide (sI s 7 c + 1 ≤ sI s 8 c))
theorem sp_N_growSilent (R : hb_R z sz dyn mu G n1 n2 s h) (hc : c < 3) (k : ∀ (G' : hb_G) (h' : ev_H), hb_R z sz dyn mu G' n1 n2 (M_gs s c).1 h' → hb_E dyn G h G' h' → Q (some (.int (zb (M_gs s c).2)), h')) : ev_M (mf_N_growSilent z) [.ref (sz + (28 + 6 * c))] h Q := by
  unfold M_gs at k
  refine ev_M.go rfl rfl ?_
  refine ev_W.fn rfl rfl ?_
  refine ev_W.obj rfl (R.o6 hc) rfl ?_
  refine ev_W.br rfl rfl (fun h1 => ?_) (fun h1 => ?_)
  · rw [if_neg h1] at k
    refine ev_W.fn rfl rfl ?_
    refine ev_W.fn rfl rfl ?_
    refine ev_W.obj rfl (R.o6 hc) rfl ?_
    refine ev_W.fn rfl rfl ?_
    refine ev_W.fn rfl rfl ?_
    refine ev_W.w7 R hc rfl (fun u1 R1 E1 => ?_)
    refine ev_W.fn rfl rfl ?_
    refine ev_W.obj rfl (R1.o6 hc) rfl ?_
    refine ev_W.fn rfl rfl ?_
    refine ev_W.obj rfl (R1.o6 hc) rfl ?_
    refine ev_W.br rfl rfl (fun h2 => ?_) (fun h2 => ?_)
    · refine ev_W.fn rfl rfl ?_
      refine ev_W.zret rfl (Or.inl rfl) ?_
      have h2 : sI s 7 c + 1 ≤ sI s 8 c := by simpa [st_a] using h2
      have := k _ _ R1 E1
      simpa [h2, zb] using this
    · refine ev_W.fn rfl rfl ?_
      refine ev_W.fn rfl rfl ?_
      refine ev_W.zret rfl (Or.inr rfl) ?_
      have h2 : ¬ sI s 7 c + 1 ≤ sI s 8 c := by simpa [st_a] using h2
      have := k _ _ R1 E1
      simpa [h2, zb] using this
  · rw [if_pos (Decidable.not_not.mp h1)] at k
    refine ev_W.fn rfl rfl ?_
    refine ev_W.zret rfl (Or.inl rfl) ?_
    exact k _ _ R hb_E.rf
theorem sp_N_willMessage (R : hb_R z sz dyn mu G n1 n2 s h) (hc : c < 3) (k : ∀ (G' : hb_G) (h' : ev_H) (a : Nat), hb_R z sz dyn mu G' (n1 + 1) (n2 + 4) s h' → hb_E dyn G h G' h' → ms_at dyn G' h' a (sJ s 1 c, sI s 9 c, 1, false) → Q (some (.ref a), h')) : ev_M (mf_N_willMessage z) [.ref (sz + (28 + 6 * c))] h Q := by
  refine ev_M.go rfl rfl ?_
  refine ev_W.nw R rfl (fun G1 u1 a1 R1 E1 na1 => ?_)
  refine ev_W.fn rfl rfl ?_
  refine ev_W.fn rfl rfl ?_
  refine ev_W.obj rfl (R1.o6 hc) rfl ?_
  refine ev_W.fn rfl rfl ?_
  refine ev_W.obj rfl (R1.o6 hc) rfl ?_
  refine ev_W.fn rfl rfl ?_
  refine ev_W.fn rfl rfl ?_
  refine ev_W.clI rfl rfl rfl rfl rfl ?_
  refine sp_M_new (rt := false) R1 na1 (fun G2 u2 R2 E2 hp2 => ?_)
  refine ev_W.ret rfl rfl ?_
  exact k _ _ _ R2 (E1.tr E2) hp2
theorem sp_N_hasWill (R : hb_R z sz dyn mu G n1 n2 s h) (hc : c < 3) (k : Q (some (.int (zb (decide (¬ sJ s 1 c = 0)))), h)) : ev_M (mf_N_hasWill z) [.ref (sz + (28 + 6 * c))] h Q := by
  refine ev_M.go rfl rfl ?_
  refine ev_W.fn rfl rfl ?_
  refine ev_W.obj rfl (R.o6 hc) rfl ?_
  refine ev_W.fn rfl rfl ?_
  refine ev_W.fn rfl rfl ?_
  refine ev_W.br rfl rfl (fun h1 => ?_) (fun h1 => ?_)
  · refine ev_W.fn rfl rfl ?_
    refine ev_W.zret rfl (Or.inl rfl) ?_
    have q : sJ s 1 c = 0 := (lg_cmp_eq _ _).mp h1
    simpa [q, zb] using k
  · refine ev_W.fn rfl rfl ?_
    refine ev_W.fn rfl rfl ?_
    refine ev_W.zret rfl (Or.inr rfl) ?_
    have q : ¬ sJ s 1 c = 0 := fun q => h1 ((lg_cmp_eq _ _).mpr q)
    simpa [q, zb] using k
end NS
