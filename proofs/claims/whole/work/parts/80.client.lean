/-! The client's methods (laid by wip/whole/p80.py). -/
def M_cp1 (s : hb_S) (c i : Nat) (x : hb_Pa) : hb_S := M_up (tP s c ((sP s c).set i (x.1, 1, nI (pa_id (sP s c))))) c (M_pkt x.1 (nI (pa_id (sP s c))) false)
def M_cpF : Nat → Nat → hb_S → Nat → Nat → hb_S
  | 0, _, s, _, _ => s
  | n + 1, i, s, c, u => match (sP s c)[i]? with
    | none => s
    | some x => if sI s 0 c = 2 ∧ u < 2 ∧ x.2.1 = 0 then M_cpF n (i + 1) (M_cp1 s c i x) c (u + 1) else M_cpF n (i + 1) s c u
def M_cpump (s : hb_S) (c : Nat) : hb_S := M_cpF (sP s c).length 0 s c (pa_uw (sP s c))
def M_keep (s : hb_S) (c : Nat) (m : hb_Ms) : hb_S := M_cpump (tP s c (sP s c ++ [(m, 0, 0)])) c
def pa_so (ps : List hb_Pa) : List hb_Pa := (ps.filter (fun x => !decide (x.2.1 = 2))).map (fun x => (x.1, 0, 0))
def M_saF : List hb_Pa → hb_S → Nat → hb_S
  | [], s, _ => s
  | x :: r, s, c => M_saF r (if x.2.1 = 0 then s else M_up s c (pa_rp x)) c
def M_ack (s : hb_S) (c : Nat) (va : Int32) : hb_S := if va = 0 then M_cpump (tP (tI (tI s 0 c 2) 4 c 0) c (pa_so (sP s c))) c else M_cpump (M_saF (sP s c) (tI s 0 c 2) c) c
def M_put (s : hb_S) (c : Nat) (v : Int32) : hb_S := if 0 ≤ sI s 2 c ∧ sI s 2 c ≤ 99 then tI (tX s c (va_up (sX s c) (sI s 2 c).toNatClampNeg v)) 2 c (sI s 2 c + 1) else tI s 2 c (sI s 2 c + 1)
def M_crp0 (s : hb_S) (c : Nat) (id va qu : Int32) : hb_S := if qu < 2 ∨ hbit (sI s 4 c) id = false then M_put s c va else s
def M_crp1 (s : hb_S) (c : Nat) (id qu : Int32) : hb_S := if qu = 1 then M_up s c (mkp 4 id 0) else if qu = 2 then M_up (tI s 4 c (hadd (sI s 4 c) id)) c (mkp 5 id 0) else s
def M_crl (s : hb_S) (c : Nat) (id : Int32) : hb_S := M_up (tI s 4 c (hrem (sI s 4 c) id)) c (mkp 7 id 0)
def M_crc (s : hb_S) (c : Nat) (id va : Int32) : hb_S := if va = 151 then tP s c (pa_fin (sP s c) id 2 1) else if (pa_rel (sP s c) id).2 = true then M_up (tP s c (pa_rel (sP s c) id).1) c (mkp 6 id 0) else tP s c (pa_rel (sP s c) id).1
def M_crv (s : hb_S) (c : Nat) (p : hb_Pk) : hb_S := match p with
  | (ty, id, va, tx, qu, ag, mr, wi, ke, wv) => if ty = 2 then M_ack s c va else if ty = 3 then M_crp1 (M_crp0 s c id va qu) c id qu else if ty = 6 then M_crl s c id else if ty = 4 then M_cpump (tP s c (pa_fin (sP s c) id 1 1)) c else if ty = 5 then M_cpump (M_crc s c id va) c else if ty = 7 then M_cpump (tP s c (pa_fin (sP s c) id 2 2)) c else s
section CI
variable {z : Nat × Nat} {sz dyn : Nat} {mu : Nat → Option ev_E} {c : Nat} {Q : ev_O → Prop}
theorem hb_R.ix {n1 n2 : Nat} {G : hb_G} {s : hb_S} {h : ev_H} (R : hb_R z sz dyn mu G n1 n2 s h) (hc : c < 3) (f : Nat → Int32) : hb_R z sz dyn mu G n1 n2 (tX s c f) (ev_put h (sz + (9 + 7 * c)) (.inl (0, 100, .inl f))) := by
  have hL := hb_ls.fix (s' := (tX s c f)) (x := (.inl (0, 100, .inl f))) R (r := 9 + 7 * c) (by omega) (fun j hj => by revert j; rcases (show c = 0 ∨ c = 1 ∨ c = 2 by omega) with rfl | rfl | rfl <;> decide) (fun j _ => rfl)
  obtain ⟨r1, r2, r3, r4, r5, r6, r7, ⟨f0, f1, f2, f3, f4, f5, f6, f7, f8, f9, f10, f11, f12⟩, r9⟩ := R
  refine ⟨r1.put (by omega) (by omega), r2, r3, r4, r5, r6, fun b h1 h2 => (ev_put_ne (by omega)).trans (r7 b h1 h2), ⟨?_, ?_, ?_, ?_, ?_, ?_, ?_, ?_, ?_, ?_, ?_, ?_, ?_⟩, hL⟩
  · rw [show sz = sz + 0 from rfl, ev_put_ne (by omega)]; exact f0
  · rw [ev_put_ne (by omega)]; exact f1
  · rw [ev_put_ne (by omega)]; exact f2
  · rw [ev_put_ne (by omega)]; exact f3
  · rw [ev_put_ne (by omega)]; exact f4
  · rw [ev_put_ne (by omega)]; exact f5
  · intro c' hc'; rw [ev_put_ne (by omega)]; exact f6 c' hc'
  · intro c' hc'; rw [ev_put_ne (by omega)]; exact f7 c' hc'
  · intro c' hc'; rw [ev_put_ne (by omega)]; exact f8 c' hc'
  · intro c' hc'
    by_cases e : c' = c
    · subst e; rw [ev_put_same]; simp [st_a]
    · rw [ev_put_ne (by omega), f9 c' hc']; simp [st_a, e]
  · intro c' hc'; rw [ev_put_ne (by omega)]; exact f10 c' hc'
  · intro c' hc'; rw [ev_put_ne (by omega)]; exact f11 c' hc'
  · intro c' hc'; rw [ev_put_ne (by omega)]; exact f12 c' hc'
theorem sp_R_st {n1 n2 l i a ma : Nat} {G : hb_G} {s : hb_S} {h : ev_H} {x : hb_Pa} {id : Int32} (R : hb_R z sz dyn mu G n1 n2 s h) (hl : l < 6) (hi : (sP s l)[i]? = some x) (ha : (G.2.1 (hb_pj l))[i]? = some a) (hpa : pa_at dyn G h (hb_pj l) a ma x) (k : ∀ (h' : ev_H), hb_R z sz dyn mu G n1 n2 (tP s l ((sP s l).set i (x.1, 1, id))) h' → hb_E dyn G h G h' → pa_at dyn G h' (hb_pj l) a ma (x.1, 1, id) → Q (none, h')) : ev_M (mf_R_start z) [.ref a, .int id] h Q := by
  have hne : ma ≠ a := fun e => by have := hpa.2.1; rw [← e, hpa.2.2.2.2.1] at this; omega
  exact sp_R_start R hl hi ha hpa (fun R' E' => k _ R' E' ⟨ev_put_same, hpa.2.1, hpa.2.2.1, (ev_put_ne hne).trans hpa.2.2.2.1, hpa.2.2.2.2.1, hpa.2.2.2.2.2⟩)
theorem sp_R_wa {n1 n2 l i a ma : Nat} {G : hb_G} {s : hb_S} {h : ev_H} {x : hb_Pa} (R : hb_R z sz dyn mu G n1 n2 s h) (hl : l < 6) (hi : (sP s l)[i]? = some x) (ha : (G.2.1 (hb_pj l))[i]? = some a) (hpa : pa_at dyn G h (hb_pj l) a ma x) (k : ∀ (h' : ev_H), hb_R z sz dyn mu G n1 n2 (tP s l ((sP s l).set i (x.1, 0, 0))) h' → hb_E dyn G h G h' → Q (none, h')) : ev_M (mf_R_waitAgain z) [.ref a] h Q :=
  sp_R_waitAgain R hl hi ha hpa (fun R' E' => k _ R' E')
theorem sp_C_put {n1 n2 : Nat} {G : hb_G} {s : hb_S} {h : ev_H} {v : Int32} (R : hb_R z sz dyn mu G n1 n2 s h) (hc : c < 3) (k : ∀ (G' : hb_G) (h' : ev_H), hb_R z sz dyn mu G' n1 n2 (M_put s c v) h' → hb_E dyn G h G' h' → Q (none, h')) : ev_M (mf_C_putIntoInbox z) [.ref (sz + (6 + 7 * c)), .int v] h Q := by
  unfold M_put at k
  refine ev_M.go rfl rfl ?_
  refine ev_W.fn rfl rfl ?_
  refine ev_W.obj rfl (R.o3 hc) rfl ?_
  refine ev_W.fn rfl rfl ?_
  refine ev_W.fn rfl rfl ?_
  refine ev_W.cl rfl rfl rfl rfl rfl ?_
  refine sp_isWithin ?_
  refine ev_W.br rfl rfl (fun h1 => ?_) (fun h1 => ?_)
  · rw [if_neg (of_decide_eq_false (zb_n0.mp h1))] at k
    refine ev_W.fn rfl rfl ?_
    refine ev_W.fn rfl rfl ?_
    refine ev_W.obj rfl (R.o3 hc) rfl ?_
    refine ev_W.fn rfl rfl ?_
    refine ev_W.fn rfl rfl ?_
    refine ev_W.w2 R hc rfl (fun u1 R1 E1 => ?_)
    refine ev_W.ret rfl rfl ?_
    exact k _ _ R1 E1
  · have h1 := of_decide_eq_true (zb_1.mp h1)
    rw [if_pos h1] at k
    obtain ⟨j, hj, hje⟩ := nI_of2 (M := 99) (n := 99) (by decide) (Int32.not_lt.mpr h1.1) h1.2
    refine ev_W.fn rfl rfl ?_
    refine ev_W.obj rfl (R.o3 hc) rfl ?_
    refine ev_W.fn rfl rfl ?_
    refine ev_W.obj rfl (R.o3 hc) rfl ?_
    refine ev_W.fn rfl rfl ?_
    refine ev_W.iastN rfl (R.ox hc) hje (by omega) (by decide) ?_
    have R0 := R.ix hc (va_up (sX s c) j v)
    have E0 : hb_E dyn G h G (ev_put h (sz + (9 + 7 * c)) (.inl (0, 100, .inl (va_up (sX s c) j v)))) := hb_E.fix R (by omega)
    have ej : (sI s 2 c).toNatClampNeg = j := by rw [hje]; exact nI_clamp (by omega)
    rw [ej] at k
    refine ev_W.fn rfl rfl ?_
    refine ev_W.fn rfl rfl ?_
    refine ev_W.obj rfl (R0.o3 hc) rfl ?_
    refine ev_W.fn rfl rfl ?_
    refine ev_W.fn rfl rfl ?_
    refine ev_W.w2 R0 hc rfl (fun u1 R1 E1 => ?_)
    refine ev_W.ret rfl rfl ?_
    exact k _ _ R1 (E0.tr E1)
set_option maxHeartbeats 800000 in
theorem sp_cp_loop (hc : c < 3) : ∀ (n i u n1 n2 : Nat) (G : hb_G) (s : hb_S) (h : ev_H) (x3 : Option Value), hb_R z sz dyn mu G n1 n2 s h → i + n = (sP s c).length → u ≤ 40 → (sN s (2 * c)).length ≤ 18 + u → (∀ (G' : hb_G) (h' : ev_H), hb_R z sz dyn mu G' (n1 + 2 * (2 - u)) (n2 + 50 * (2 - u)) (M_cpF n i s c u) h' → hb_E dyn G h G' h' → Q (none, h')) → ev_W (mk_C_pump z) (10, [some (.ref (sz + (6 + 7 * c))), some (.int (nI u)), some (.int (nI i)), x3], [], h) Q := by
  intro n
  induction n with
  | zero =>
    intro i u n1 n2 G s h x3 R hi hu hd k
    have hlen := R.plen (l := c) (by omega)
    refine ev_W.fn rfl rfl ?_
    refine ev_W.fn rfl rfl ?_
    refine ev_W.obj rfl (R.o3 hc) rfl ?_
    refine ev_W.clR rfl rfl rfl rfl rfl (R.lo (hb_pj_lt (by omega))) ?_
    refine R.psize (by omega) ?_
    refine ev_W.brT rfl rfl (nI_le (by omega) (by omega)) ?_
    refine ev_W.ret rfl rfl ?_
    exact k _ _ (R.up (by omega) (by omega)) hb_E.rf
  | succ n ih =>
    intro i u n1 n2 G s h x3 R hi hu hd k
    have hlen := R.plen (l := c) (by omega)
    obtain ⟨x, hix⟩ : ∃ x, (sP s c)[i]? = some x := ⟨_, List.getElem?_eq_getElem (by omega)⟩
    rw [M_cpF, hix] at k
    dsimp only at k
    have next : ¬ (sI s 0 c = 2 ∧ u < 2 ∧ x.2.1 = 0) → ∀ y : Option Value, ev_W (mk_C_pump z) (93, [some (.ref (sz + (6 + 7 * c))), some (.int (nI u)), some (.int (nI i)), y], [], h) Q := by
      intro hn y
      rw [if_neg hn] at k
      refine ev_W.fn rfl rfl ?_
      refine ev_W.fn rfl rfl ?_
      have := ih (i + 1) u _ _ G s h y R (by omega) hu hd k
      rw [← nI_1 i] at this
      exact this
    refine ev_W.fn rfl rfl ?_
    refine ev_W.fn rfl rfl ?_
    refine ev_W.obj rfl (R.o3 hc) rfl ?_
    refine ev_W.clR rfl rfl rfl rfl rfl (R.lo (hb_pj_lt (by omega))) ?_
    refine R.psize (by omega) ?_
    refine ev_W.brF rfl rfl (nI_ge (by omega) (by omega)) ?_
    refine ev_W.fn rfl rfl ?_
    refine ev_W.obj rfl (R.o3 hc) rfl ?_
    refine ev_W.fn rfl rfl ?_
    refine ev_W.clR rfl rfl rfl rfl rfl (R.lo (hb_pj_lt (by omega))) ?_
    refine R.pget (by omega) hix (fun a1 ma1 ha1 hp1 => ?_)
    refine ev_W.cast rfl hp1.1 ?_
    refine ev_W.fn rfl rfl ?_
    refine ev_W.fn rfl rfl ?_
    refine ev_W.obj rfl (R.o3 hc) rfl ?_
    refine ev_W.obj rfl (R.o1 hc) rfl ?_
    refine ev_W.fn rfl rfl ?_
    refine ev_W.br rfl rfl (fun h1 => ?_) (fun h1 => ?_)
    · exact next (fun q => h1 q.1) _
    · refine ev_W.fn rfl rfl ?_
      refine ev_W.fn rfl rfl ?_
      refine ev_W.br rfl rfl (fun h2 => ?_) (fun h2 => ?_)
      · exact next (fun q => nI_ge (b := 2) q.2.1 (by decide) h2) _
      · refine ev_W.fn rfl rfl ?_
        refine ev_W.obj rfl hp1.1 rfl ?_
        refine ev_W.br rfl rfl (fun h3 => ?_) (fun h3 => ?_)
        · exact next (fun q => h3 q.2.2) _
        · have h2u : u < 2 := Nat.lt_of_not_le (fun q => h2 (nI_le (a := 2) q (by omega)))
          have hcnd : sI s 0 c = 2 ∧ u < 2 ∧ x.2.1 = 0 := ⟨Decidable.not_not.mp h1, h2u, Decidable.not_not.mp h3⟩
          rw [if_pos hcnd] at k
          refine ev_W.fn rfl rfl ?_
          refine ev_W.fn rfl rfl ?_
          refine ev_W.obj rfl (R.o3 hc) rfl ?_
          refine ev_W.cl rfl rfl rfl rfl rfl ?_
          refine sp_R_leastFreeId R (by omega) ?_
          refine ev_W.clR rfl rfl rfl rfl rfl hp1.1 ?_
          refine sp_R_st R (by omega) hix ha1 hp1 (fun u2 R2 E2 hp1 => ?_)
          refine ev_W.fn rfl rfl ?_
          refine ev_W.fn rfl rfl ?_
          refine ev_W.obj rfl (R2.o3 hc) rfl ?_
          refine ev_W.obj rfl (R2.o1 hc) rfl ?_
          refine ev_W.fn rfl rfl ?_
          refine ev_W.obj rfl hp1.1 rfl ?_
          refine ev_W.fn rfl rfl ?_
          refine ev_W.obj rfl hp1.1 rfl ?_
          refine ev_W.fn rfl rfl ?_
          refine ev_W.cl rfl rfl rfl rfl rfl ?_
          refine sp_P_ofM (ag := false) R2 ⟨hp1.2.2.2.1, hp1.2.2.2.2.1, hp1.2.2.2.2.2⟩ (fun G3 u3 a3 R3 E3 hp3 => ?_)
          refine ev_W.clR rfl rfl rfl rfl rfl (R3.lo (nl_lt (by omega))) ?_
          refine R3.nadd (by omega) (show (sN s (2 * c)).length ≤ 20 by omega) hp3 (fun G4 u4 R4 E4 => ?_)
          have hp3 := E4.pk R3 hp3
          refine ev_W.fn rfl rfl ?_
          refine ev_W.fn rfl rfl ?_
          refine ev_W.fn rfl rfl ?_
          have eP : (sP (M_cp1 s c i x) c).length = (sP s c).length := by simp [M_cp1, M_up, st_a]
          have eN : (sN (M_cp1 s c i x) (2 * c)).length = (sN s (2 * c)).length + 1 := by simp [M_cp1, M_up, st_a]
          have := ih (i + 1) (u + 1) _ _ _ (M_cp1 s c i x) _ (some (.ref a1)) R4 (by omega) (by omega) (by omega) (fun G' h' R' E' => k G' h' (R'.up (by omega) (by omega)) ((E2.tr (E3.tr E4)).tr E'))
          rw [← nI_1 i, ← nI_1 u] at this
          exact this
theorem sp_C_pump {n1 n2 : Nat} {G : hb_G} {s : hb_S} {h : ev_H} (R : hb_R z sz dyn mu G n1 n2 s h) (hc : c < 3) (hd : (sN s (2 * c)).length ≤ 18) (k : ∀ (G' : hb_G) (h' : ev_H), hb_R z sz dyn mu G' (n1 + 4) (n2 + 100) (M_cpump s c) h' → hb_E dyn G h G' h' → Q (none, h')) : ev_M (mf_C_pump z) [.ref (sz + (6 + 7 * c))] h Q := by
  have hlen := R.plen (l := c) (by omega)
  have hu := pa_uw_le (sP s c)
  unfold M_cpump at k
  refine ev_M.go rfl rfl ?_
  refine ev_W.fn rfl rfl ?_
  refine ev_W.obj rfl (R.o3 hc) rfl ?_
  refine ev_W.cl rfl rfl rfl rfl rfl ?_
  refine sp_R_countUnderWay R (by omega) ?_
  refine ev_W.fn rfl rfl ?_
  refine ev_W.fn rfl rfl ?_
  refine ev_W.fn rfl rfl ?_
  exact sp_cp_loop hc _ 0 _ _ _ _ s _ _ R (by omega) (by omega) (by omega) (fun G' h' R' E' => k _ _ (R'.up (by omega) (by omega)) E')
theorem sp_C_keep {n1 n2 : Nat} {G : hb_G} {s : hb_S} {h : ev_H} {ma : Nat} {m : hb_Ms} (R : hb_R z sz dyn mu G n1 n2 s h) (hc : c < 3) (hm : ms_at dyn G h ma m) (hl : (sP s c).length ≤ 20) (hd : (sN s (2 * c)).length ≤ 18) (k : ∀ (G' : hb_G) (h' : ev_H), hb_R z sz dyn mu G' (n1 + 6) (n2 + 143) (M_keep s c m) h' → hb_E dyn G h G' h' → Q (none, h')) : ev_M (mf_C_keep z) [.ref (sz + (6 + 7 * c)), .ref ma] h Q := by
  refine ev_M.go rfl rfl ?_
  refine ev_W.fn rfl rfl ?_
  refine ev_W.obj rfl (R.o3 hc) rfl ?_
  refine ev_W.nw R rfl (fun G1 u1 a1 R1 E1 na1 => ?_)
  have hm := E1.ms R hm
  refine ev_W.fn rfl rfl ?_
  refine ev_W.fn rfl rfl ?_
  refine ev_W.clI rfl rfl rfl rfl rfl ?_
  refine sp_R_new R1 na1 (fun u2 R2 E2 hq => ?_)
  have hm := E2.ms R1 hm
  refine ev_W.clR rfl rfl rfl rfl rfl (R2.lo (hb_pj_lt (by omega))) ?_
  refine R2.padd (x := (m, 0, 0)) (by omega) hl hq.1 hq.2.1 hq.2.2 hm (fun G3 u3 R3 E3 hcell => ?_)
  have hm := E3.ms R2 hm
  refine ev_W.fn rfl rfl ?_
  refine ev_W.fn rfl rfl ?_
  refine ev_W.clR rfl rfl rfl rfl rfl (R3.o3 hc) ?_
  refine sp_C_pump R3 hc hd (fun G4 u4 R4 E4 => ?_)
  have hm := E4.ms R3 hm
  refine ev_W.ret rfl rfl ?_
  exact k _ _ (R4.up (by omega) (by omega)) (E1.tr (E2.tr (E3.tr E4)))
theorem sp_so_loop (hc : c < 3) : ∀ (n n1 n2 : Nat) (A B : List hb_Pa) (G : hb_G) (s : hb_S) (h : ev_H), A.length = n → hb_R z sz dyn mu G n1 n2 s h → sP s c = A ++ B → (∀ (G' : hb_G) (h' : ev_H), hb_R z sz dyn mu G' n1 n2 (tP s c (pa_so A ++ B)) h' → hb_E dyn G h G' h' → Q (none, h')) → ev_W (mk_C_startOver z) (10, [some (.ref (sz + (6 + 7 * c))), some (.int (nI A.length - 1))], [], h) Q := by
  intro n
  induction n with
  | zero =>
    intro n1 n2 A B G s h hA R hs k
    have hA0 : A = [] := List.length_eq_zero_iff.mp hA
    subst hA0
    refine ev_W.fn rfl rfl ?_
    refine ev_W.fn rfl rfl ?_
    refine ev_W.ret rfl rfl ?_
    refine k G h ?_ hb_E.rf
    rw [tP_id (by rw [hs]; rfl)]
    exact R
  | succ n ih =>
    intro n1 n2 A B G s h hA R hs k
    have hne : A ≠ [] := fun e => by rw [e] at hA; simp at hA
    obtain ⟨A', x, hAx⟩ : ∃ A' x, A = A' ++ [x] := ⟨_, _, (List.dropLast_concat_getLast hne).symm⟩
    subst hAx
    have hA' : A'.length = n := by simpa using hA
    have hlen : (sP s c).length ≤ 40 := R.plen (by omega)
    have hL : (sP s c).length = A'.length + 1 + B.length := by rw [hs]; simp; omega
    have hix : (sP s c)[A'.length]? = some x := by rw [hs]; simp
    have e1 : nI (A' ++ [x]).length - 1 = nI A'.length := by rw [List.length_append]; exact nI_pred _
    rw [e1]
    have next : ∀ (G2 : hb_G) (s2 : hb_S) (h2 : ev_H) (B2 : List hb_Pa), hb_R z sz dyn mu G2 n1 n2 s2 h2 → sP s2 c = A' ++ B2 → hb_E dyn G h G2 h2 → tP s2 c (pa_so A' ++ B2) = tP s c (pa_so (A' ++ [x]) ++ B) → ev_W (mk_C_startOver z) (58, [some (.ref (sz + (6 + 7 * c))), some (.int (nI A'.length))], [], h2) Q := by
      intro G2 s2 h2 B2 R2 hs2 hE2 htp
      refine ev_W.fn rfl rfl ?_
      refine ev_W.fn rfl rfl ?_
      have := ih n1 n2 A' B2 G2 s2 h2 hA' R2 hs2 (fun G' h' R' E' => k G' h' (by rw [← htp]; exact R') (hE2.tr E'))
      rw [← nI_m1s] at this
      exact this
    refine ev_W.fn rfl rfl ?_
    refine ev_W.brF rfl rfl (nI_pos (by omega)) ?_
    refine ev_W.fn rfl rfl ?_
    refine ev_W.obj rfl (R.o3 hc) rfl ?_
    refine ev_W.fn rfl rfl ?_
    refine ev_W.clR rfl rfl rfl rfl rfl (R.lo (hb_pj_lt (by omega))) ?_
    refine R.pget (by omega) hix (fun a1 ma1 ha1 hp1 => ?_)
    refine ev_W.cast rfl hp1.1 ?_
    refine ev_W.obj rfl hp1.1 rfl ?_
    refine ev_W.fn rfl rfl ?_
    refine ev_W.br rfl rfl (fun h1 => ?_) (fun h1 => ?_)
    · refine ev_W.fn rfl rfl ?_
      refine ev_W.obj rfl (R.o3 hc) rfl ?_
      refine ev_W.fn rfl rfl ?_
      refine ev_W.clR rfl rfl rfl rfl rfl (R.lo (hb_pj_lt (by omega))) ?_
      refine R.pget (by omega) hix (fun a2 ma2 ha2 hp2 => ?_)
      refine ev_W.cast rfl hp2.1 ?_
      refine ev_W.clR rfl rfl rfl rfl rfl hp2.1 ?_
      refine sp_R_wa R (by omega) hix ha2 hp2 (fun u3 R3 E3 => ?_)
      refine next _ _ _ ((x.1, 0, 0) :: B) R3 ?_ E3 ?_
      · rw [sP_tP, hs]; simp
      · rw [tP_tP]
        unfold pa_so
        rw [List.filter_append]
        simp [h1]
    · have h1 := Decidable.not_not.mp h1
      refine ev_W.fn rfl rfl ?_
      refine ev_W.obj rfl (R.o3 hc) rfl ?_
      refine ev_W.fn rfl rfl ?_
      refine ev_W.clR rfl rfl rfl rfl rfl (R.lo (hb_pj_lt (by omega))) ?_
      refine R.prem (by omega) (by omega) (fun G4 u4 a4 R4 E4 => ?_)
      refine ev_W.fn rfl rfl ?_
      refine ev_W.fn rfl rfl ?_
      refine next _ _ _ B R4 ?_ E4 ?_
      · rw [sP_tP, hs]
        simp [List.eraseIdx_append_of_length_le]
      · rw [tP_tP]
        unfold pa_so
        rw [List.filter_append]
        simp [h1]
theorem sp_C_startOver {n1 n2 : Nat} {G : hb_G} {s : hb_S} {h : ev_H} (R : hb_R z sz dyn mu G n1 n2 s h) (hc : c < 3) (k : ∀ (G' : hb_G) (h' : ev_H), hb_R z sz dyn mu G' n1 n2 (tP s c (pa_so (sP s c))) h' → hb_E dyn G h G' h' → Q (none, h')) : ev_M (mf_C_startOver z) [.ref (sz + (6 + 7 * c))] h Q := by
  refine ev_M.go rfl rfl ?_
  refine ev_W.fn rfl rfl ?_
  refine ev_W.obj rfl (R.o3 hc) rfl ?_
  refine ev_W.clR rfl rfl rfl rfl rfl (R.lo (hb_pj_lt (by omega))) ?_
  refine R.psize (by omega) ?_
  refine ev_W.fn rfl rfl ?_
  refine ev_W.fn rfl rfl ?_
  refine ev_W.fn rfl rfl ?_
  refine sp_so_loop hc _ _ _ (sP s c) [] G s h rfl R (by simp) (fun G' h' R' hE => k G' h' ?_ hE)
  rw [List.append_nil] at R'
  exact R'
theorem sp_sa_loop (hc : c < 3) : ∀ (B A : List hb_Pa) (n1 n2 : Nat) (G : hb_G) (s : hb_S) (h : ev_H), hb_R z sz dyn mu G n1 n2 s h → sP s c = A ++ B → (sN s (2 * c)).length + B.length ≤ 20 → (∀ (G' : hb_G) (h' : ev_H), hb_R z sz dyn mu G' (n1 + 2 * B.length) (n2 + 50 * B.length) (M_saF B s c) h' → hb_E dyn G h G' h' → Q (none, h')) → ev_W (mk_C_sendAgain z) (2, [some (.ref (sz + (6 + 7 * c))), some (.int (nI A.length))], [], h) Q := by
  intro B
  induction B with
  | nil =>
    intro A n1 n2 G s h R hs hd k
    have hlen := R.plen (l := c) (by omega)
    have hL : (sP s c).length = A.length := by rw [hs]; simp
    refine ev_W.fn rfl rfl ?_
    refine ev_W.fn rfl rfl ?_
    refine ev_W.obj rfl (R.o3 hc) rfl ?_
    refine ev_W.clR rfl rfl rfl rfl rfl (R.lo (hb_pj_lt (by omega))) ?_
    refine R.psize (by omega) ?_
    refine ev_W.brT rfl rfl (nI_le (by omega) (by omega)) ?_
    refine ev_W.ret rfl rfl ?_
    exact k _ _ R hb_E.rf
  | cons x B ih =>
    intro A n1 n2 G s h R hs hd k
    have hlen := R.plen (l := c) (by omega)
    have hL : (sP s c).length = A.length + 1 + B.length := by rw [hs]; simp; omega
    have hix : (sP s c)[A.length]? = some x := by rw [hs]; simp
    rw [List.length_cons] at k hd
    rw [M_saF] at k
    have next : ∀ (G2 : hb_G) (s2 : hb_S) (h2 : ev_H), hb_R z sz dyn mu G2 (n1 + 2) (n2 + 50) s2 h2 → sP s2 c = sP s c → (sN s2 (2 * c)).length ≤ (sN s (2 * c)).length + 1 → hb_E dyn G h G2 h2 → (if x.2.1 = 0 then s else M_up s c (pa_rp x)) = s2 → ev_W (mk_C_sendAgain z) (55, [some (.ref (sz + (6 + 7 * c))), some (.int (nI A.length))], [], h2) Q := by
      intro G2 s2 h2 R2 e1 e2 E2 he
      rw [he] at k
      refine ev_W.fn rfl rfl ?_
      refine ev_W.fn rfl rfl ?_
      have := ih (A ++ [x]) _ _ G2 s2 h2 R2 (by rw [e1, hs]; simp) (by omega) (fun G' h' R' E' => k G' h' (R'.up (by omega) (by omega)) (E2.tr E'))
      rw [List.length_append] at this
      have e2 : nI (A.length + [x].length) = nI A.length + 1 := (nI_1 _).symm
      rw [e2] at this
      exact this
    refine ev_W.fn rfl rfl ?_
    refine ev_W.fn rfl rfl ?_
    refine ev_W.obj rfl (R.o3 hc) rfl ?_
    refine ev_W.clR rfl rfl rfl rfl rfl (R.lo (hb_pj_lt (by omega))) ?_
    refine R.psize (by omega) ?_
    refine ev_W.brF rfl rfl (nI_ge (by omega) (by omega)) ?_
    refine ev_W.fn rfl rfl ?_
    refine ev_W.obj rfl (R.o3 hc) rfl ?_
    refine ev_W.fn rfl rfl ?_
    refine ev_W.clR rfl rfl rfl rfl rfl (R.lo (hb_pj_lt (by omega))) ?_
    refine R.pget (by omega) hix (fun a1 ma1 ha1 hp1 => ?_)
    refine ev_W.cast rfl hp1.1 ?_
    refine ev_W.obj rfl hp1.1 rfl ?_
    refine ev_W.br rfl rfl (fun h1 => ?_) (fun h1 => ?_)
    · exact next _ _ _ (R.up (by omega) (by omega)) rfl (by omega) hb_E.rf (by rw [if_pos h1])
    · refine ev_W.fn rfl rfl ?_
      refine ev_W.obj rfl (R.o3 hc) rfl ?_
      refine ev_W.obj rfl (R.o1 hc) rfl ?_
      refine ev_W.fn rfl rfl ?_
      refine ev_W.obj rfl (R.o3 hc) rfl ?_
      refine ev_W.fn rfl rfl ?_
      refine ev_W.clR rfl rfl rfl rfl rfl (R.lo (hb_pj_lt (by omega))) ?_
      refine R.pget (by omega) hix (fun a2 ma2 ha2 hp2 => ?_)
      refine ev_W.cast rfl hp2.1 ?_
      refine ev_W.clR rfl rfl rfl rfl rfl hp2.1 ?_
      refine sp_R_rep R hp2 (fun G3 u3 a3 R3 E3 hp3 => ?_)
      refine ev_W.clR rfl rfl rfl rfl rfl (R3.lo (nl_lt (by omega))) ?_
      refine R3.nadd (by omega) (by omega) hp3 (fun G4 u4 R4 E4 => ?_)
      have hp3 := E4.pk R3 hp3
      refine ev_W.fn rfl rfl ?_
      exact next _ _ _ (R4.up (by omega) (by omega)) rfl (by simp [st_a]) (E3.tr E4) (by rw [if_neg h1]; rfl)
theorem sp_C_sendAgain {n1 n2 : Nat} {G : hb_G} {s : hb_S} {h : ev_H} (R : hb_R z sz dyn mu G n1 n2 s h) (hc : c < 3) (hd : (sN s (2 * c)).length + (sP s c).length ≤ 20) (hl : (sP s c).length ≤ 4) (k : ∀ (G' : hb_G) (h' : ev_H), hb_R z sz dyn mu G' (n1 + 8) (n2 + 200) (M_saF (sP s c) s c) h' → hb_E dyn G h G' h' → Q (none, h')) : ev_M (mf_C_sendAgain z) [.ref (sz + (6 + 7 * c))] h Q := by
  refine ev_M.go rfl rfl ?_
  refine ev_W.fn rfl rfl ?_
  refine ev_W.fn rfl rfl ?_
  exact sp_sa_loop hc (sP s c) [] _ _ G s h R rfl hd (fun G' h' R' E' => k _ _ (R'.up (by omega) (by omega)) E')
theorem M_saF_ok : ∀ (B : List hb_Pa) (s : hb_S) (c : Nat), sI (M_saF B s c) = sI s ∧ sJ (M_saF B s c) = sJ s ∧ sX (M_saF B s c) = sX s ∧ sP (M_saF B s c) = sP s ∧ sB (M_saF B s c) = sB s ∧ sM (M_saF B s c) = sM s ∧ (∀ l, l ≠ 2 * c → sN (M_saF B s c) l = sN s l) ∧ sN (M_saF B s c) (2 * c) = sN s (2 * c) ++ (B.filter (fun x => !decide (x.2.1 = 0))).map pa_rp := by
  intro B
  induction B with
  | nil => intro s c; exact ⟨rfl, rfl, rfl, rfl, rfl, rfl, fun _ _ => rfl, by simp [M_saF]⟩
  | cons x B ih =>
    intro s c
    rw [M_saF]
    by_cases q : x.2.1 = 0
    · rw [if_pos q]
      obtain ⟨b1, b2, b3, b4, b5, b6, b7, b8⟩ := ih s c
      exact ⟨b1, b2, b3, b4, b5, b6, b7, by rw [b8]; simp [q]⟩
    · rw [if_neg q]
      obtain ⟨b1, b2, b3, b4, b5, b6, b7, b8⟩ := ih (M_up s c (pa_rp x)) c
      refine ⟨b1, b2, b3, b4, b5, b6, fun l hl => (b7 l hl).trans (by simp [M_up, st_a, hl]), ?_⟩
      rw [b8]; simp [M_up, st_a, q]
theorem sp_C_ack {n1 n2 : Nat} {G : hb_G} {s : hb_S} {h : ev_H} {pa : Nat} {ty id va : Int32} {tx : Int64} {qu : Int32} {ag mr : Bool} {wi ke wv : Int32} (R : hb_R z sz dyn mu G n1 n2 s h) (hc : c < 3) (hp : pk_at dyn G h pa (ty, id, va, tx, qu, ag, mr, wi, ke, wv)) (hd : (sN s (2 * c)).length ≤ 14) (hl : (sP s c).length ≤ 4) (k : ∀ (G' : hb_G) (h' : ev_H), hb_R z sz dyn mu G' (n1 + 12) (n2 + 300) (M_ack s c va) h' → hb_E dyn G h G' h' → Q (none, h')) : ev_M (mf_C_receiveConnack z) [.ref (sz + (6 + 7 * c)), .ref pa] h Q := by
  unfold M_ack at k
  refine ev_M.go rfl rfl ?_
  refine ev_W.fn rfl rfl ?_
  refine ev_W.obj rfl (R.o3 hc) rfl ?_
  refine ev_W.fn rfl rfl ?_
  refine ev_W.w0 R hc rfl (fun u1 R1 E1 => ?_)
  have hp := E1.pk R hp
  refine ev_W.fn rfl rfl ?_
  refine ev_W.obj rfl hp.1 rfl ?_
  refine ev_W.br rfl rfl (fun h1 => ?_) (fun h1 => ?_)
  · rw [if_neg h1] at k
    refine ev_W.fn rfl rfl ?_
    refine ev_W.clR rfl rfl rfl rfl rfl (R1.o3 hc) ?_
    refine sp_C_sendAgain R1 hc (show (sN s (2 * c)).length + (sP s c).length ≤ 20 by omega) hl (fun G2 u2 R2 E2 => ?_)
    have hp := E2.pk R1 hp
    refine ev_W.fn rfl rfl ?_
    refine ev_W.clR rfl rfl rfl rfl rfl (R2.o3 hc) ?_
    refine sp_C_pump R2 hc (by have e := (M_saF_ok (sP s c) (tI s 0 c 2) c).2.2.2.2.2.2.2; have e2 := List.length_filter_le (fun x : hb_Pa => !decide (x.2.1 = 0)) (sP s c); rw [show sP (tI s 0 c 2) c = sP s c from rfl, e, List.length_append, List.length_map]; have e3 : (sN (tI s 0 c 2) (2 * c)).length = (sN s (2 * c)).length := rfl; omega) (fun G3 u3 R3 E3 => ?_)
    have hp := E3.pk R2 hp
    refine ev_W.ret rfl rfl ?_
    exact k _ _ (R3.up (by omega) (by omega)) (E1.tr (E2.tr E3))
  · rw [if_pos (Decidable.not_not.mp h1)] at k
    refine ev_W.fn rfl rfl ?_
    refine ev_W.obj rfl (R1.o3 hc) rfl ?_
    refine ev_W.clR rfl rfl rfl rfl rfl (R1.o4 hc) ?_
    refine sp_hc_clr R1 hc (fun u4 R4 E4 => ?_)
    have hp := E4.pk R1 hp
    refine ev_W.fn rfl rfl ?_
    refine ev_W.clR rfl rfl rfl rfl rfl (R4.o3 hc) ?_
    refine sp_C_startOver R4 hc (fun G5 u5 R5 E5 => ?_)
    have hp := E5.pk R4 hp
    refine ev_W.fn rfl rfl ?_
    refine ev_W.fn rfl rfl ?_
    refine ev_W.clR rfl rfl rfl rfl rfl (R5.o3 hc) ?_
    refine sp_C_pump R5 hc (show (sN s (2 * c)).length ≤ 18 by omega) (fun G6 u6 R6 E6 => ?_)
    have hp := E6.pk R5 hp
    refine ev_W.ret rfl rfl ?_
    exact k _ _ (R6.up (by omega) (by omega)) (E1.tr (E4.tr (E5.tr E6)))
theorem sp_crp_tail {n1 n2 : Nat} {G : hb_G} {s : hb_S} {h : ev_H} {pa : Nat} {ty id va : Int32} {tx : Int64} {qu : Int32} {ag mr : Bool} {wi ke wv : Int32} (R : hb_R z sz dyn mu G n1 n2 s h) (hc : c < 3) (hp : pk_at dyn G h pa (ty, id, va, tx, qu, ag, mr, wi, ke, wv)) (hd : (sN s (2 * c)).length ≤ 20) (k : ∀ (G' : hb_G) (h' : ev_H), hb_R z sz dyn mu G' (n1 + 2) (n2 + 50) (M_crp1 s c id qu) h' → hb_E dyn G h G' h' → Q (none, h')) : ev_W (mk_C_receivePublish z) (30, [some (.ref (sz + (6 + 7 * c))), some (.ref pa)], [], h) Q := by
  unfold M_crp1 at k
  refine ev_W.fn rfl rfl ?_
  refine ev_W.obj rfl hp.1 rfl ?_
  refine ev_W.fn rfl rfl ?_
  refine ev_W.br rfl rfl (fun h1 => ?_) (fun h1 => ?_)
  · rw [if_neg h1] at k
    refine ev_W.fn rfl rfl ?_
    refine ev_W.obj rfl hp.1 rfl ?_
    refine ev_W.fn rfl rfl ?_
    refine ev_W.br rfl rfl (fun h2 => ?_) (fun h2 => ?_)
    · refine ev_W.ret rfl rfl ?_
      rw [if_neg h2] at k
      exact k _ _ (R.up (by omega) (by omega)) hb_E.rf
    · rw [if_pos (Decidable.not_not.mp h2)] at k
      refine ev_W.fn rfl rfl ?_
      refine ev_W.obj rfl (R.o3 hc) rfl ?_
      refine ev_W.fn rfl rfl ?_
      refine ev_W.obj rfl hp.1 rfl ?_
      refine ev_W.clR rfl rfl rfl rfl rfl (R.o4 hc) ?_
      refine sp_hc_add R hc (fun u1 R1 E1 => ?_)
      have hp := E1.pk R hp
      refine ev_W.fn rfl rfl ?_
      refine ev_W.obj rfl (R1.o3 hc) rfl ?_
      refine ev_W.obj rfl (R1.o1 hc) rfl ?_
      refine ev_W.nw R1 rfl (fun G2 u2 a2 R2 E2 na2 => ?_)
      have hp := E2.pk R1 hp
      refine ev_W.fn rfl rfl ?_
      refine ev_W.fn rfl rfl ?_
      refine ev_W.fn rfl rfl ?_
      refine ev_W.obj rfl hp.1 rfl ?_
      refine ev_W.fn rfl rfl ?_
      refine ev_W.clI rfl rfl rfl rfl rfl ?_
      refine sp_P_new R2 na2 (fun G3 u3 R3 E3 hp3 => ?_)
      have hp := E3.pk R2 hp
      refine ev_W.clR rfl rfl rfl rfl rfl (R3.lo (nl_lt (by omega))) ?_
      refine R3.nadd (by omega) hd hp3 (fun G4 u4 R4 E4 => ?_)
      have hp := E4.pk R3 hp
      have hp3 := E4.pk R3 hp3
      refine ev_W.fn rfl rfl ?_
      refine ev_W.ret rfl rfl ?_
      exact k _ _ R4 (E1.tr (E2.tr (E3.tr E4)))
  · rw [if_pos (Decidable.not_not.mp h1)] at k
    refine ev_W.fn rfl rfl ?_
    refine ev_W.obj rfl (R.o3 hc) rfl ?_
    refine ev_W.obj rfl (R.o1 hc) rfl ?_
    refine ev_W.nw R rfl (fun G5 u5 a5 R5 E5 na5 => ?_)
    have hp := E5.pk R hp
    refine ev_W.fn rfl rfl ?_
    refine ev_W.fn rfl rfl ?_
    refine ev_W.fn rfl rfl ?_
    refine ev_W.obj rfl hp.1 rfl ?_
    refine ev_W.fn rfl rfl ?_
    refine ev_W.clI rfl rfl rfl rfl rfl ?_
    refine sp_P_new R5 na5 (fun G6 u6 R6 E6 hp6 => ?_)
    have hp := E6.pk R5 hp
    refine ev_W.clR rfl rfl rfl rfl rfl (R6.lo (nl_lt (by omega))) ?_
    refine R6.nadd (by omega) hd hp6 (fun G7 u7 R7 E7 => ?_)
    have hp := E7.pk R6 hp
    have hp6 := E7.pk R6 hp6
    refine ev_W.fn rfl rfl ?_
    refine ev_W.fn rfl rfl ?_
    refine ev_W.ret rfl rfl ?_
    exact k _ _ R7 (E5.tr (E6.tr E7))
theorem sp_C_rp {n1 n2 : Nat} {G : hb_G} {s : hb_S} {h : ev_H} {pa : Nat} {ty id va : Int32} {tx : Int64} {qu : Int32} {ag mr : Bool} {wi ke wv : Int32} (R : hb_R z sz dyn mu G n1 n2 s h) (hc : c < 3) (hp : pk_at dyn G h pa (ty, id, va, tx, qu, ag, mr, wi, ke, wv)) (hd : (sN s (2 * c)).length ≤ 20) (k : ∀ (G' : hb_G) (h' : ev_H), hb_R z sz dyn mu G' (n1 + 2) (n2 + 50) (M_crp1 (M_crp0 s c id va qu) c id qu) h' → hb_E dyn G h G' h' → Q (none, h')) : ev_M (mf_C_receivePublish z) [.ref (sz + (6 + 7 * c)), .ref pa] h Q := by
  have hdp : (sN (M_put s c va) (2 * c)).length ≤ 20 := by unfold M_put; split <;> exact hd
  unfold M_crp0 at k
  refine ev_M.go rfl rfl ?_
  refine ev_W.fn rfl rfl ?_
  refine ev_W.obj rfl hp.1 rfl ?_
  refine ev_W.fn rfl rfl ?_
  refine ev_W.br rfl rfl (fun h1 => ?_) (fun h1 => ?_)
  · rw [if_pos (Or.inl h1)] at k
    refine ev_W.fn rfl rfl ?_
    refine ev_W.fn rfl rfl ?_
    refine ev_W.obj rfl hp.1 rfl ?_
    refine ev_W.clR rfl rfl rfl rfl rfl (R.o3 hc) ?_
    refine sp_C_put R hc (fun G1 u1 R1 E1 => ?_)
    have hp := E1.pk R hp
    exact sp_crp_tail R1 hc hp hdp (fun G' h' R' E' => k _ _ R' (E1.tr E'))
  · refine ev_W.fn rfl rfl ?_
    refine ev_W.obj rfl (R.o3 hc) rfl ?_
    refine ev_W.fn rfl rfl ?_
    refine ev_W.obj rfl hp.1 rfl ?_
    refine ev_W.clR rfl rfl rfl rfl rfl (R.o4 hc) ?_
    refine sp_I_has (R.o4 hc) ?_
    refine ev_W.br rfl rfl (fun h2 => ?_) (fun h2 => ?_)
    · have h2 : hbit (sI s 4 c) id = true := zb_1.mp h2
      rw [if_neg (fun q => q.elim h1 (fun q => by rw [h2] at q; cases q))] at k
      exact sp_crp_tail R hc hp hd (fun G' h' R' E' => k _ _ R' (hb_E.rf.tr E'))
    · have h2 : hbit (sI s 4 c) id = false := zb_n0.mp (Decidable.not_not.mp h2)
      rw [if_pos (Or.inr h2)] at k
      refine ev_W.fn rfl rfl ?_
      refine ev_W.fn rfl rfl ?_
      refine ev_W.obj rfl hp.1 rfl ?_
      refine ev_W.clR rfl rfl rfl rfl rfl (R.o3 hc) ?_
      refine sp_C_put R hc (fun G2 u2 R2 E2 => ?_)
      have hp := E2.pk R hp
      exact sp_crp_tail R2 hc hp hdp (fun G' h' R' E' => k _ _ R' (E2.tr E'))
theorem sp_C_rl {n1 n2 : Nat} {G : hb_G} {s : hb_S} {h : ev_H} {pa : Nat} {ty id va : Int32} {tx : Int64} {qu : Int32} {ag mr : Bool} {wi ke wv : Int32} (R : hb_R z sz dyn mu G n1 n2 s h) (hc : c < 3) (hp : pk_at dyn G h pa (ty, id, va, tx, qu, ag, mr, wi, ke, wv)) (hd : (sN s (2 * c)).length ≤ 20) (k : ∀ (G' : hb_G) (h' : ev_H), hb_R z sz dyn mu G' (n1 + 2) (n2 + 50) (M_crl s c id) h' → hb_E dyn G h G' h' → Q (none, h')) : ev_M (mf_C_receivePubrel z) [.ref (sz + (6 + 7 * c)), .ref pa] h Q := by
  refine ev_M.go rfl rfl ?_
  refine ev_W.fn rfl rfl ?_
  refine ev_W.obj rfl (R.o3 hc) rfl ?_
  refine ev_W.fn rfl rfl ?_
  refine ev_W.obj rfl hp.1 rfl ?_
  refine ev_W.clR rfl rfl rfl rfl rfl (R.o4 hc) ?_
  refine sp_hc_rem R hc (fun u1 R1 E1 => ?_)
  have hp := E1.pk R hp
  refine ev_W.fn rfl rfl ?_
  refine ev_W.obj rfl (R1.o3 hc) rfl ?_
  refine ev_W.obj rfl (R1.o1 hc) rfl ?_
  refine ev_W.nw R1 rfl (fun G2 u2 a2 R2 E2 na2 => ?_)
  have hp := E2.pk R1 hp
  refine ev_W.fn rfl rfl ?_
  refine ev_W.fn rfl rfl ?_
  refine ev_W.fn rfl rfl ?_
  refine ev_W.obj rfl hp.1 rfl ?_
  refine ev_W.fn rfl rfl ?_
  refine ev_W.clI rfl rfl rfl rfl rfl ?_
  refine sp_P_new R2 na2 (fun G3 u3 R3 E3 hp3 => ?_)
  have hp := E3.pk R2 hp
  refine ev_W.clR rfl rfl rfl rfl rfl (R3.lo (nl_lt (by omega))) ?_
  refine R3.nadd (by omega) hd hp3 (fun G4 u4 R4 E4 => ?_)
  have hp := E4.pk R3 hp
  have hp3 := E4.pk R3 hp3
  refine ev_W.fn rfl rfl ?_
  refine ev_W.ret rfl rfl ?_
  exact k _ _ R4 (E1.tr (E2.tr (E3.tr E4)))
theorem sp_C_rc {n1 n2 : Nat} {G : hb_G} {s : hb_S} {h : ev_H} {pa : Nat} {ty id va : Int32} {tx : Int64} {qu : Int32} {ag mr : Bool} {wi ke wv : Int32} (R : hb_R z sz dyn mu G n1 n2 s h) (hc : c < 3) (hp : pk_at dyn G h pa (ty, id, va, tx, qu, ag, mr, wi, ke, wv)) (hd : (sN s (2 * c)).length ≤ 20) (k : ∀ (G' : hb_G) (h' : ev_H), hb_R z sz dyn mu G' (n1 + 2) (n2 + 50) (M_crc s c id va) h' → hb_E dyn G h G' h' → Q (none, h')) : ev_M (mf_C_receivePubrec z) [.ref (sz + (6 + 7 * c)), .ref pa] h Q := by
  unfold M_crc at k
  refine ev_M.go rfl rfl ?_
  refine ev_W.fn rfl rfl ?_
  refine ev_W.obj rfl hp.1 rfl ?_
  refine ev_W.fn rfl rfl ?_
  refine ev_W.br rfl rfl (fun h1 => ?_) (fun h1 => ?_)
  · rw [if_neg h1] at k
    refine ev_W.fn rfl rfl ?_
    refine ev_W.obj rfl (R.o3 hc) rfl ?_
    refine ev_W.fn rfl rfl ?_
    refine ev_W.obj rfl hp.1 rfl ?_
    refine ev_W.cl rfl rfl rfl rfl rfl ?_
    refine sp_R_release R (by omega) (fun u1 R1 E1 => ?_)
    have hp := E1.pk R hp
    refine ev_W.br rfl rfl (fun h2 => ?_) (fun h2 => ?_)
    · refine ev_W.ret rfl rfl ?_
      rw [if_neg (fun q => by rw [zb_n0.mp h2] at q; cases q)] at k
      exact k _ _ (R1.up (by omega) (by omega)) E1
    · rw [if_pos (zb_1.mp h2)] at k
      refine ev_W.fn rfl rfl ?_
      refine ev_W.obj rfl (R1.o3 hc) rfl ?_
      refine ev_W.obj rfl (R1.o1 hc) rfl ?_
      refine ev_W.nw R1 rfl (fun G2 u2 a2 R2 E2 na2 => ?_)
      have hp := E2.pk R1 hp
      refine ev_W.fn rfl rfl ?_
      refine ev_W.fn rfl rfl ?_
      refine ev_W.fn rfl rfl ?_
      refine ev_W.obj rfl hp.1 rfl ?_
      refine ev_W.fn rfl rfl ?_
      refine ev_W.clI rfl rfl rfl rfl rfl ?_
      refine sp_P_new R2 na2 (fun G3 u3 R3 E3 hp3 => ?_)
      have hp := E3.pk R2 hp
      refine ev_W.clR rfl rfl rfl rfl rfl (R3.lo (nl_lt (by omega))) ?_
      refine R3.nadd (by omega) hd hp3 (fun G4 u4 R4 E4 => ?_)
      have hp := E4.pk R3 hp
      have hp3 := E4.pk R3 hp3
      refine ev_W.fn rfl rfl ?_
      refine ev_W.ret rfl rfl ?_
      exact k _ _ R4 (E1.tr (E2.tr (E3.tr E4)))
  · rw [if_pos (Decidable.not_not.mp h1)] at k
    refine ev_W.fn rfl rfl ?_
    refine ev_W.obj rfl (R.o3 hc) rfl ?_
    refine ev_W.fn rfl rfl ?_
    refine ev_W.obj rfl hp.1 rfl ?_
    refine ev_W.fn rfl rfl ?_
    refine ev_W.fn rfl rfl ?_
    refine ev_W.cl rfl rfl rfl rfl rfl ?_
    refine sp_R_finish R (by omega) (fun G5 u5 R5 E5 => ?_)
    have hp := E5.pk R hp
    refine ev_W.fn rfl rfl ?_
    refine ev_W.ret rfl rfl ?_
    exact k _ _ (R5.up (by omega) (by omega)) E5
theorem M_crc_len (s : hb_S) (c : Nat) (id va : Int32) : (sN (M_crc s c id va) (2 * c)).length ≤ (sN s (2 * c)).length + 1 := by
  unfold M_crc
  split
  · simp [st_a]
  · split
    · simp [M_up, st_a]
    · simp [st_a]
theorem sp_C_receive {n1 n2 : Nat} {G : hb_G} {s : hb_S} {h : ev_H} {pa : Nat} {ty id va : Int32} {tx : Int64} {qu : Int32} {ag mr : Bool} {wi ke wv : Int32} (R : hb_R z sz dyn mu G n1 n2 s h) (hc : c < 3) (hp : pk_at dyn G h pa (ty, id, va, tx, qu, ag, mr, wi, ke, wv)) (hty : ty = 2 ∨ ty = 3 ∨ ty = 6 ∨ ty = 4 ∨ ty = 5 ∨ ty = 7 ∨ ty = 9 ∨ ty = 11 ∨ ty = 13) (hd : (sN s (2 * c)).length ≤ 14) (hl : (sP s c).length ≤ 4) (k : ∀ (G' : hb_G) (h' : ev_H), hb_R z sz dyn mu G' (n1 + 12) (n2 + 300) (M_crv s c (ty, id, va, tx, qu, ag, mr, wi, ke, wv)) h' → hb_E dyn G h G' h' → Q (none, h')) : ev_M (mf_C_receive z) [.ref (sz + (6 + 7 * c)), .ref pa] h Q := by
  have hlen := M_crc_len s c id va
  unfold M_crv at k
  rcases hty with rfl | rfl | rfl | rfl | rfl | rfl | rfl | rfl | rfl
  · refine ev_M.go rfl rfl ?_
    refine ev_W.fn rfl rfl ?_
    refine ev_W.obj rfl hp.1 rfl ?_
    refine ev_W.fn rfl rfl ?_
    refine ev_W.fn rfl rfl ?_
    refine ev_W.fn rfl rfl ?_
    refine ev_W.clR rfl rfl rfl rfl rfl (R.o3 hc) ?_
    refine sp_C_ack R hc hp hd hl (fun G1 u1 R1 E1 => ?_)
    have hp := E1.pk R hp
    refine ev_W.fn rfl rfl ?_
    refine ev_W.ret rfl rfl ?_
    exact k _ _ (R1.up (by omega) (by omega)) E1
  · refine ev_M.go rfl rfl ?_
    refine ev_W.fn rfl rfl ?_
    refine ev_W.obj rfl hp.1 rfl ?_
    refine ev_W.fn rfl rfl ?_
    refine ev_W.fn rfl rfl ?_
    refine ev_W.fn rfl rfl ?_
    refine ev_W.clR rfl rfl rfl rfl rfl (R.o3 hc) ?_
    refine sp_C_rp R hc hp (by omega) (fun G1 u1 R1 E1 => ?_)
    have hp := E1.pk R hp
    refine ev_W.fn rfl rfl ?_
    refine ev_W.ret rfl rfl ?_
    exact k _ _ (R1.up (by omega) (by omega)) E1
  · refine ev_M.go rfl rfl ?_
    refine ev_W.fn rfl rfl ?_
    refine ev_W.obj rfl hp.1 rfl ?_
    refine ev_W.fn rfl rfl ?_
    refine ev_W.fn rfl rfl ?_
    refine ev_W.fn rfl rfl ?_
    refine ev_W.clR rfl rfl rfl rfl rfl (R.o3 hc) ?_
    refine sp_C_rl R hc hp (by omega) (fun G1 u1 R1 E1 => ?_)
    have hp := E1.pk R hp
    refine ev_W.fn rfl rfl ?_
    refine ev_W.ret rfl rfl ?_
    exact k _ _ (R1.up (by omega) (by omega)) E1
  · refine ev_M.go rfl rfl ?_
    refine ev_W.fn rfl rfl ?_
    refine ev_W.obj rfl hp.1 rfl ?_
    refine ev_W.fn rfl rfl ?_
    refine ev_W.fn rfl rfl ?_
    refine ev_W.obj rfl (R.o3 hc) rfl ?_
    refine ev_W.fn rfl rfl ?_
    refine ev_W.obj rfl hp.1 rfl ?_
    refine ev_W.fn rfl rfl ?_
    refine ev_W.fn rfl rfl ?_
    refine ev_W.cl rfl rfl rfl rfl rfl ?_
    refine sp_R_finish R (by omega) (fun G1 u1 R1 E1 => ?_)
    have hp := E1.pk R hp
    refine ev_W.fn rfl rfl ?_
    refine ev_W.clR rfl rfl rfl rfl rfl (R1.o3 hc) ?_
    refine sp_C_pump R1 hc (show (sN s (2 * c)).length ≤ 18 by omega) (fun G2 u2 R2 E2 => ?_)
    have hp := E2.pk R1 hp
    refine ev_W.fn rfl rfl ?_
    refine ev_W.ret rfl rfl ?_
    exact k _ _ (R2.up (by omega) (by omega)) (E1.tr E2)
  · refine ev_M.go rfl rfl ?_
    refine ev_W.fn rfl rfl ?_
    refine ev_W.obj rfl hp.1 rfl ?_
    refine ev_W.fn rfl rfl ?_
    refine ev_W.fn rfl rfl ?_
    refine ev_W.fn rfl rfl ?_
    refine ev_W.clR rfl rfl rfl rfl rfl (R.o3 hc) ?_
    refine sp_C_rc R hc hp (by omega) (fun G1 u1 R1 E1 => ?_)
    have hp := E1.pk R hp
    refine ev_W.fn rfl rfl ?_
    refine ev_W.clR rfl rfl rfl rfl rfl (R1.o3 hc) ?_
    refine sp_C_pump R1 hc (by omega) (fun G2 u2 R2 E2 => ?_)
    have hp := E2.pk R1 hp
    refine ev_W.fn rfl rfl ?_
    refine ev_W.ret rfl rfl ?_
    exact k _ _ (R2.up (by omega) (by omega)) (E1.tr E2)
  · refine ev_M.go rfl rfl ?_
    refine ev_W.fn rfl rfl ?_
    refine ev_W.obj rfl hp.1 rfl ?_
    refine ev_W.fn rfl rfl ?_
    refine ev_W.fn rfl rfl ?_
    refine ev_W.obj rfl (R.o3 hc) rfl ?_
    refine ev_W.fn rfl rfl ?_
    refine ev_W.obj rfl hp.1 rfl ?_
    refine ev_W.fn rfl rfl ?_
    refine ev_W.fn rfl rfl ?_
    refine ev_W.cl rfl rfl rfl rfl rfl ?_
    refine sp_R_finish R (by omega) (fun G1 u1 R1 E1 => ?_)
    have hp := E1.pk R hp
    refine ev_W.fn rfl rfl ?_
    refine ev_W.clR rfl rfl rfl rfl rfl (R1.o3 hc) ?_
    refine sp_C_pump R1 hc (show (sN s (2 * c)).length ≤ 18 by omega) (fun G2 u2 R2 E2 => ?_)
    have hp := E2.pk R1 hp
    refine ev_W.fn rfl rfl ?_
    refine ev_W.ret rfl rfl ?_
    exact k _ _ (R2.up (by omega) (by omega)) (E1.tr E2)
  · refine ev_M.go rfl rfl ?_
    refine ev_W.fn rfl rfl ?_
    refine ev_W.obj rfl hp.1 rfl ?_
    refine ev_W.fn rfl rfl ?_
    refine ev_W.ret rfl rfl ?_
    exact k _ _ (R.up (by omega) (by omega)) hb_E.rf
  · refine ev_M.go rfl rfl ?_
    refine ev_W.fn rfl rfl ?_
    refine ev_W.obj rfl hp.1 rfl ?_
    refine ev_W.fn rfl rfl ?_
    refine ev_W.ret rfl rfl ?_
    exact k _ _ (R.up (by omega) (by omega)) hb_E.rf
  · refine ev_M.go rfl rfl ?_
    refine ev_W.fn rfl rfl ?_
    refine ev_W.obj rfl hp.1 rfl ?_
    refine ev_W.fn rfl rfl ?_
    refine ev_W.ret rfl rfl ?_
    exact k _ _ (R.up (by omega) (by omega)) hb_E.rf
end CI
