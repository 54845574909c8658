/-! Parcels: finish, release, what is sent again; lines (laid by wip/whole/p69.py). -/
theorem tP_tP (s : hb_S) (l : Nat) (x y : List hb_Pa) : tP (tP s l x) l y = tP s l y := by
  simp only [tP, bx_uu]
theorem tP_id {s : hb_S} {l : Nat} {x : List hb_Pa} (h : x = sP s l) : tP s l x = s := by
  subst h
  have : va_up s.2.2.2.2.1 l (sP s l) = s.2.2.2.2.1 := by
    funext b
    by_cases q : b = l
    · rw [q, va_up_self]
    · rw [va_up_ne _ _ q]
  simp only [tP, this]
theorem sP_tP (s : hb_S) (l : Nat) (x : List hb_Pa) : sP (tP s l x) l = x := by simp only [sP, tP, va_up_self]
theorem sN_tN (s : hb_S) (l : Nat) (x : List hb_Pk) : sN (tN s l x) l = x := by simp only [sN, tN, va_up_self]
theorem sM_tM (s : hb_S) (l : Nat) (x : List hb_Ms) : sM (tM s l x) l = x := by simp only [sM, tM, va_up_self]
theorem sB_tB (s : hb_S) (l : Nat) (x : List hb_Sb) : sB (tB s l x) l = x := by simp only [sB, tB, va_up_self]
def pa_fm (id q st : Int32) (x : hb_Pa) : Bool := decide (x.2.2 = id ∧ x.1.2.2.1 = q ∧ x.2.1 = st)
def pa_fin (ps : List hb_Pa) (id q st : Int32) : List hb_Pa := ps.filter (fun x => !pa_fm id q st x)
def pa_rel : List hb_Pa → Int32 → List hb_Pa × Bool
  | [], _ => ([], false)
  | x :: r, id => if x.2.2 = id ∧ x.1.2.2.1 = 2 ∧ ¬ x.2.1 = 0 then ((x.1, 2, x.2.2) :: r, true) else (x :: (pa_rel r id).1, (pa_rel r id).2)
def pa_rp (x : hb_Pa) : hb_Pk := if x.2.1 = 1 then (3, x.2.2, x.1.2.1, x.1.1, x.1.2.2.1, true, x.1.2.2.2, 0, 0, 0) else (6, x.2.2, 0, 0, 0, false, false, 0, 0, 0)
section PF
variable {z : Nat × Nat} {sz dyn : Nat} {mu : Nat → Option ev_E} {n1 n2 l : Nat} {Q : ev_O → Prop}
theorem map_eIdx {α β : Type} (f : α → β) : ∀ (l : List α) (i : Nat), (l.eraseIdx i).map f = (l.map f).eraseIdx i := by
  intro l
  induction l with
  | nil => intro i; rfl
  | cons x r ih => intro i; cases i with
    | zero => rfl
    | succ i => simp [List.eraseIdx_cons_succ, ih]
theorem hb_R.prem {G : hb_G} {s : hb_S} {h : ev_H} {i : Nat} (R : hb_R z sz dyn mu G n1 n2 s h) (hl : l < 6) (hi : i < (sP s l).length) (k : ∀ (G' : hb_G) (h' : ev_H) (a : Nat), hb_R z sz dyn mu G' n1 n2 (tP s l ((sP s l).eraseIdx i)) h' → hb_E dyn G h G' h' → Q (some (.ref a), h')) : ev_M (mf_A_remove z) [.ref (sz + hb_ro (hb_pj l)), .int (nI i)] h Q := by
  obtain ⟨x, hx⟩ : ∃ x, (sP s l)[i]? = some x := ⟨_, List.getElem?_eq_getElem hi⟩
  refine R.rem (hb_pj_lt hl) (ev := pe x) (by rw [XP_at s hl, List.getElem?_map, hx]; rfl) (fun G' h' a ha _ _ hR hE _ => k G' h' a (hR _ ⟨rfl, rfl, rfl⟩ ?_ (fun i hi hij => XP_ne s _ hl hi hij)) hE)
  rw [XP_self s _ hl, XP_at s hl, map_eIdx]
theorem nI_m1s (n : Nat) : nI n + (-1) = nI n - 1 := by
  rw [Int32.sub_eq_add_neg]
set_option maxHeartbeats 1000000 in
theorem sp_fin_loop (hl : l < 6) (id q st : Int32) : ∀ (n : Nat) (A B : List hb_Pa) (G : hb_G) (s : hb_S) (h : ev_H) (x5 : Option Value), A.length = n → hb_R z sz dyn mu G n1 n2 s h → sP s l = A ++ B →
    (∀ (G' : hb_G) (h' : ev_H), hb_R z sz dyn mu G' n1 n2 (tP s l (pa_fin A id q st ++ B)) h' → hb_E dyn G h G' h' → Q (none, h')) →
    ev_W (mk_R_finish z) (8, [some (.ref (sz + hb_ro (hb_pj l))), some (.int id), some (.int q), some (.int st), some (.int (nI A.length - 1)), x5], [], h) Q := by
  intro n
  induction n with
  | zero =>
    intro A B G s h x5 hA R hs k
    have hA0 : A = [] := List.length_eq_zero_iff.mp hA
    subst hA0
    refine ev_W.fn rfl rfl ?_
    refine ev_W.fn rfl rfl ?_
    refine ev_W.ret rfl rfl ?_
    refine k G h ?_ hb_E.rf
    rw [tP_id (by rw [hs]; rfl)]
    exact R
  | succ n ih =>
    intro A B G s h x5 hA R hs k
    have hne : A ≠ [] := fun e => by rw [e] at hA; simp at hA
    obtain ⟨A', x, hAx⟩ : ∃ A' x, A = A' ++ [x] := ⟨_, _, (List.dropLast_concat_getLast hne).symm⟩
    subst hAx
    have hA' : A'.length = n := by simpa using hA
    have hlen : (sP s l).length ≤ 40 := R.plen hl
    have hL : (sP s l).length = A'.length + 1 + B.length := by rw [hs]; simp; omega
    have hix : (sP s l)[A'.length]? = some x := by rw [hs]; simp
    have e1 : nI (A' ++ [x]).length - 1 = nI A'.length := by rw [List.length_append]; exact nI_pred _
    obtain ⟨fs, hob⟩ := R.lobj (hb_pj_lt hl)
    rw [e1]
    have next : ∀ (G2 : hb_G) (s2 : hb_S) (h2 : ev_H) (B2 : List hb_Pa) (y5 : Option Value), hb_R z sz dyn mu G2 n1 n2 s2 h2 → sP s2 l = A' ++ B2 → hb_E dyn G h G2 h2 → tP s2 l (pa_fin A' id q st ++ B2) = tP s l (pa_fin (A' ++ [x]) id q st ++ B) → ev_W (mk_R_finish z) (61, [some (.ref (sz + hb_ro (hb_pj l))), some (.int id), some (.int q), some (.int st), some (.int (nI A'.length)), y5], [], h2) Q := by
      intro G2 s2 h2 B2 y5 R2 hs2 hE2 htp
      refine ev_W.fn rfl rfl ?_
      refine ev_W.fn rfl rfl ?_
      have := ih A' B2 G2 s2 h2 y5 hA' R2 hs2 (fun G' h' R' E' => k G' h' (by rw [← htp]; exact R') (hE2.tr E'))
      rw [← nI_m1s] at this
      exact this
    have keep : pa_fm id q st x = false → tP s l (pa_fin A' id q st ++ (x :: B)) = tP s l (pa_fin (A' ++ [x]) id q st ++ B) := by
      intro hf
      unfold pa_fin
      rw [List.filter_append]
      simp [hf]
    have hsx : sP s l = A' ++ (x :: B) := by rw [hs]; simp
    refine ev_W.fn rfl rfl ?_
    refine ev_W.brF rfl rfl (nI_pos (by omega)) ?_
    refine ev_W.fn rfl rfl ?_
    refine ev_W.fn rfl rfl ?_
    refine ev_W.clR rfl rfl rfl rfl rfl hob ?_
    refine R.pget hl hix (fun a ma ha hpa => ?_)
    refine ev_W.cast rfl hpa.1 ?_
    refine ev_W.fn rfl rfl ?_
    refine ev_W.fn rfl rfl ?_
    refine ev_W.obj rfl hpa.1 rfl ?_
    refine ev_W.fn rfl rfl ?_
    refine ev_W.br rfl rfl (fun h1 => ?_) (fun h1 => ?_)
    · exact next G s h (x :: B) _ R hsx hb_E.rf (keep (by simp [pa_fm, h1]))
    · have h1 := Decidable.not_not.mp h1
      refine ev_W.fn rfl rfl ?_
      refine ev_W.obj rfl hpa.1 rfl ?_
      refine ev_W.obj (v := .int x.1.2.2.1) rfl hpa.2.2.2.1 (by obtain ⟨⟨t, v, q, r⟩, st, id⟩ := x; rfl) ?_
      refine ev_W.fn rfl rfl ?_
      refine ev_W.br rfl rfl (fun h2 => ?_) (fun h2 => ?_)
      · exact next G s h (x :: B) _ R hsx hb_E.rf (keep (by simp [pa_fm, h2]))
      · have h2 := Decidable.not_not.mp h2
        refine ev_W.fn rfl rfl ?_
        refine ev_W.obj rfl hpa.1 rfl ?_
        refine ev_W.fn rfl rfl ?_
        refine ev_W.br rfl rfl (fun h3 => ?_) (fun h3 => ?_)
        · exact next G s h (x :: B) _ R hsx hb_E.rf (keep (by simp [pa_fm, h3]))
        · have h3 := Decidable.not_not.mp h3
          refine ev_W.fn rfl rfl ?_
          refine ev_W.fn rfl rfl ?_
          refine ev_W.clR rfl rfl rfl rfl rfl hob ?_
          refine R.prem hl (by omega) (fun G' h' a R' hE => ?_)
          refine ev_W.fn rfl rfl ?_
          refine next G' _ h' B _ R' ?_ hE ?_
          · rw [sP_tP, hs]
            simp [List.eraseIdx_append_of_length_le]
          · rw [tP_tP]
            unfold pa_fin
            rw [List.filter_append]
            simp [pa_fm, h1, h2, h3]
theorem sp_R_finish {G : hb_G} {s : hb_S} {h : ev_H} (R : hb_R z sz dyn mu G n1 n2 s h) (hl : l < 6) {id q st : Int32} (k : ∀ (G' : hb_G) (h' : ev_H), hb_R z sz dyn mu G' n1 n2 (tP s l (pa_fin (sP s l) id q st)) h' → hb_E dyn G h G' h' → Q (none, h')) : ev_M (mf_R_finish z) [.ref (sz + hb_ro (hb_pj l)), .int id, .int q, .int st] h Q := by
  obtain ⟨fs, hob⟩ := R.lobj (hb_pj_lt hl)
  refine ev_M.go rfl rfl ?_
  refine ev_W.fn rfl rfl ?_
  refine ev_W.clR rfl rfl rfl rfl rfl hob ?_
  refine R.psize hl ?_
  refine ev_W.fn rfl rfl ?_
  refine ev_W.fn rfl rfl ?_
  refine ev_W.fn rfl rfl ?_
  refine sp_fin_loop hl id q st _ (sP s l) [] G s h _ rfl R (by simp) (fun G' h' R' hE => k G' h' ?_ hE)
  rw [List.append_nil] at R'
  exact R'
theorem sp_rel_loop {G : hb_G} {s : hb_S} {h : ev_H} (R : hb_R z sz dyn mu G n1 n2 s h) (hl : l < 6) {id : Int32} (k : ∀ (h' : ev_H), hb_R z sz dyn mu G n1 n2 (tP s l (pa_rel (sP s l) id).1) h' → hb_E dyn G h G h' → Q (some (.int (zb (pa_rel (sP s l) id).2)), h')) : ∀ (B A : List hb_Pa) (x3 : Option Value), sP s l = A ++ B → (∀ y, pa_rel (A ++ y) id = (A ++ (pa_rel y id).1, (pa_rel y id).2)) → ev_W (mk_R_release z) (2, [some (.ref (sz + hb_ro (hb_pj l))), some (.int id), some (.int (nI A.length)), x3], [], h) Q := by
  have hlen : (sP s l).length ≤ 40 := R.plen hl
  obtain ⟨fs, hob⟩ := R.lobj (hb_pj_lt hl)
  intro B
  induction B with
  | nil =>
    intro A x3 hs hA
    rw [List.append_nil] at hs
    refine ev_W.fn rfl rfl ?_
    refine ev_W.fn rfl rfl ?_
    refine ev_W.clR rfl rfl rfl rfl rfl hob ?_
    refine R.psize hl ?_
    refine ev_W.brT rfl rfl (nI_le (by rw [hs]; exact Nat.le_refl _) (by rw [hs] at hlen; omega)) ?_
    refine ev_W.fn rfl rfl ?_
    refine ev_W.zret rfl (Or.inl rfl) ?_
    have e := hA []
    rw [List.append_nil, ← hs] at e
    have k' := k h
    rw [e] at k'
    simp only [pa_rel, List.append_nil] at k'
    exact k' (by rw [tP_id rfl]; exact R) hb_E.rf
  | cons x B ih =>
    intro A x3 hs hA
    have hL : (sP s l).length = A.length + 1 + B.length := by rw [hs]; simp; omega
    have hix : (sP s l)[A.length]? = some x := by rw [hs]; simp
    have next : ¬ (x.2.2 = id ∧ x.1.2.2.1 = 2 ∧ ¬ x.2.1 = 0) → ∀ y3 : Option Value, ev_W (mk_R_release z) (52, [some (.ref (sz + hb_ro (hb_pj l))), some (.int id), some (.int (nI A.length)), y3], [], h) Q := by
      intro hn y3
      refine ev_W.fn rfl rfl ?_
      refine ev_W.fn rfl rfl ?_
      have := ih (A ++ [x]) y3 (by rw [hs]; simp) (fun y => by
        have e := hA (x :: y)
        rw [List.append_assoc]
        show pa_rel (A ++ (x :: y)) id = _
        rw [e]
        simp only [pa_rel, if_neg hn, List.append_assoc, List.singleton_append])
      rw [List.length_append] at this
      have e2 : nI (A.length + [x].length) = nI A.length + 1 := (nI_1 _).symm
      rw [e2] at this
      exact this
    refine ev_W.fn rfl rfl ?_
    refine ev_W.fn rfl rfl ?_
    refine ev_W.clR rfl rfl rfl rfl rfl hob ?_
    refine R.psize hl ?_
    refine ev_W.brF rfl rfl (nI_ge (by omega) (by omega)) ?_
    refine ev_W.fn rfl rfl ?_
    refine ev_W.fn rfl rfl ?_
    refine ev_W.clR rfl rfl rfl rfl rfl hob ?_
    refine R.pget hl hix (fun a ma ha hpa => ?_)
    refine ev_W.cast rfl hpa.1 ?_
    refine ev_W.fn rfl rfl ?_
    refine ev_W.fn rfl rfl ?_
    refine ev_W.obj rfl hpa.1 rfl ?_
    refine ev_W.fn rfl rfl ?_
    refine ev_W.br rfl rfl (fun h1 => next (fun q => h1 q.1) _) (fun h1 => ?_)
    have h1 := Decidable.not_not.mp h1
    refine ev_W.fn rfl rfl ?_
    refine ev_W.obj rfl hpa.1 rfl ?_
    refine ev_W.obj (v := .int x.1.2.2.1) rfl hpa.2.2.2.1 (by obtain ⟨⟨t, v, q, r⟩, st, id⟩ := x; rfl) ?_
    refine ev_W.fn rfl rfl ?_
    refine ev_W.br rfl rfl (fun h2 => next (fun q => h2 q.2.1) _) (fun h2 => ?_)
    have h2 := Decidable.not_not.mp h2
    refine ev_W.fn rfl rfl ?_
    refine ev_W.obj rfl hpa.1 rfl ?_
    refine ev_W.br rfl rfl (fun h3 => next (fun q => q.2.2 h3) _) (fun h3 => ?_)
    refine ev_W.fn rfl rfl ?_
    refine ev_W.fn rfl rfl ?_
    refine ev_W.putf rfl hpa.1 rfl rfl rfl ?_
    refine ev_W.fn rfl rfl ?_
    refine ev_W.zret rfl (Or.inr rfl) ?_
    have hm : x.2.2 = id ∧ x.1.2.2.1 = 2 ∧ ¬ x.2.1 = 0 := ⟨h1, h2, h3⟩
    have e := hA (x :: B)
    rw [← hs] at e
    simp only [pa_rel, if_pos hm] at e
    have k' := k (ev_put h a (.inr (10, [.ref ma, .int 2, .int x.2.2])))
    rw [e] at k'
    refine k' ?_ (hb_E.own (by rw [hpa.2.1]; omega))
    have hR := R.par hl hix ha hpa.1 2 x.2.2
    have e3 : (sP s l).set A.length (x.1, 2, x.2.2) = A ++ (x.1, 2, x.2.2) :: B := by rw [hs]; simp
    rw [e3] at hR
    exact hR
theorem sp_R_release {G : hb_G} {s : hb_S} {h : ev_H} (R : hb_R z sz dyn mu G n1 n2 s h) (hl : l < 6) {id : Int32} (k : ∀ (h' : ev_H), hb_R z sz dyn mu G n1 n2 (tP s l (pa_rel (sP s l) id).1) h' → hb_E dyn G h G h' → Q (some (.int (zb (pa_rel (sP s l) id).2)), h')) : ev_M (mf_R_release z) [.ref (sz + hb_ro (hb_pj l)), .int id] h Q := by
  refine ev_M.go rfl rfl ?_
  refine ev_W.fn rfl rfl ?_
  refine ev_W.fn rfl rfl ?_
  exact sp_rel_loop R hl k (sP s l) [] _ rfl (fun y => rfl)
theorem sp_R_repeatedPacket {G : hb_G} {s : hb_S} {h : ev_H} {j a ma : Nat} {x : hb_Pa} (R : hb_R z sz dyn mu G n1 n2 s h) (hpa : pa_at dyn G h j a ma x) (k : ∀ (G' : hb_G) (h' : ev_H) (p : Nat), hb_R z sz dyn mu G' (n1 + 1) (n2 + 10) s h' → hb_E dyn G h G' h' → h'.2.2 p = some (.inr (8, hb_pkF (pa_rp x))) → G'.1 p = 0 → dyn ≤ p → Q (some (.ref p), h')) : ev_M (mf_R_repeatedPacket z) [.ref a] h Q := by
  have hne : a ≠ h.1 := Nat.ne_of_lt (R.1.1 a _ hpa.1)
  refine ev_M.go rfl rfl ?_
  refine ev_W.fn rfl rfl ?_
  refine ev_W.obj rfl hpa.1 rfl ?_
  refine ev_W.fn rfl rfl ?_
  refine ev_W.br rfl rfl (fun h1 => ?_) (fun h1 => ?_)
  · refine ev_W.fn rfl rfl ?_
    refine ev_W.fn rfl rfl ?_
    refine ev_W.fn rfl rfl ?_
    refine ev_W.fn rfl rfl ?_
    refine ev_W.obj rfl (show (ev_new h 10 (.inr (8, ff_8))).2.2 a = _ from (ev_new_ne hne).trans hpa.1) rfl ?_
    refine ev_W.fn rfl rfl ?_
    refine ev_W.clI rfl rfl rfl rfl rfl ?_
    refine sp_P_init ev_new_same ?_
    refine ev_W.ret rfl rfl ?_
    obtain ⟨a1, a2, a3, a4, a5⟩ := R.mk0 10 (.inr (8, ff_8)) (.inr (8, hb_pkF (6, x.2.2, 0, 0, 0, false, false, 0, 0, 0)))
    exact k _ _ h.1 a1 a2 (by simp only [pa_rp, if_neg h1]; exact a3) a5 a4
  · have h1 := Decidable.not_not.mp h1
    refine ev_W.fn rfl rfl ?_
    refine ev_W.obj rfl hpa.1 rfl ?_
    refine ev_W.fn rfl rfl ?_
    refine ev_W.obj rfl hpa.1 rfl ?_
    refine ev_W.fn rfl rfl ?_
    refine ev_W.cl rfl rfl rfl rfl rfl ?_
    refine sp_P_ofMessage (ag := true) R hpa.2.2.2.1 (fun G' h' p R' E' hp h0 hd => ?_)
    refine ev_W.fn rfl rfl ?_
    refine ev_W.ret rfl rfl ?_
    exact k G' h' p R' E' (by simp only [pa_rp, if_pos h1]; exact hp) h0 hd
end PF
