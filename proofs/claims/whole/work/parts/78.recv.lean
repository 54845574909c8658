/-! What the broker does with a packet (laid by wip/whole/p78.py). -/
def hbit (x id : Int32) : Bool := decide (¬ x &&& (1 <<< (id &&& 31)) = 0)
def hadd (x id : Int32) : Int32 := x ||| (1 <<< (id &&& 31))
def hrem (x id : Int32) : Int32 := x &&& ((1 <<< (id &&& 31)) ^^^ (-1))
def M_rpA (s : hb_S) (c : Nat) (id va : Int32) (tx : Int64) (qu : Int32) (mr : Bool) : hb_S × Bool := if qu = 2 ∧ hbit (sI s 13 c) id = true then (s, true) else M_acc s c (tx, va, qu, mr)
def M_rpB (a : hb_S × Bool) (c : Nat) (id qu : Int32) : hb_S := if qu = 1 then M_send a.1 c (mkp 4 id (if a.2 = true then 0 else 151)) else if qu = 2 then M_send (if a.2 = true then tI a.1 13 c (hadd (sI a.1 13 c) id) else a.1) c (mkp 5 id (if a.2 = true then 0 else 151)) else a.1
def M_rp (s : hb_S) (c : Nat) (id va : Int32) (tx : Int64) (qu : Int32) (mr : Bool) : hb_S := M_rpB (M_rpA s c id va tx qu mr) c id qu
def M_gvF : List hb_Ms → hb_S → Nat → Int64 → Int32 → hb_S
  | [], s, _, _, _ => s
  | m :: r, s, c, f, q => M_gvF r (if tc_cov f m.1 = true then M_give s c (m.1, m.2.1, if q < m.2.2.1 then q else m.2.2.1, true) else s) c f q
def M_rs (s : hb_S) (c : Nat) (tx : Int64) (va : Int32) (mr : Bool) : hb_S := if (M_enter s c tx va mr).2 = true then M_pump (M_gvF (sM s 3) (M_send (M_enter s c tx va mr).1 c (mkp 9 0 va)) c tx va) c else M_pump (M_send (M_enter s c tx va mr).1 c (mkp 9 0 151)) c
def M_ru (s : hb_S) (c : Nat) (tx : Int64) : hb_S := match ix_of (fun x => decide (x.1 = tx)) (sB s c) 0 with
  | some i => M_send (tB s c ((sB s c).eraseIdx i)) c (mkp 11 0 0)
  | none => M_send s c (mkp 11 0 17)
def M_agF : List hb_Pa → hb_S → Nat → hb_S
  | [], s, _ => s
  | x :: r, s, c => M_agF r (M_send s c (pa_rp x)) c
def M_rc0 (s : hb_S) (c : Nat) (p : hb_Pk) : hb_S := if p.2.2.2.2.2.2.1 = true then M_end (tI (M_begin s c p) 1 c 1) c else tI (M_begin s c p) 1 c 1
def M_rc1 (s : hb_S) (c : Nat) (va : Int32) : hb_S := tI (tI (M_send s c (mkp 2 0 (if sI s 10 c = 0 then 0 else 1))) 10 c 1) 11 c va
def M_rc (s : hb_S) (c : Nat) (p : hb_Pk) : hb_S := M_pump (M_agF (sP (M_rc0 s c p) (3 + c)) (M_rc1 (M_rc0 s c p) c p.2.2.1) c) c
theorem M_give_ok (s : hb_S) (c : Nat) (m : hb_Ms) : sI (M_give s c m) = sI s ∧ sJ (M_give s c m) = sJ s ∧ sX (M_give s c m) = sX s ∧ sP (M_give s c m) = sP s ∧ sB (M_give s c m) = sB s ∧ (∀ l, l ≠ 2 * c + 1 → sN (M_give s c m) l = sN s l) ∧ (∀ l, l ≠ c → sM (M_give s c m) l = sM s l) ∧ ((sM (M_give s c m) c).length + (sP s (3 + c)).length ≤ 6 ∨ (sM (M_give s c m) c).length ≤ (sM s c).length) ∧ ((sN (M_give s c m) (2 * c + 1)).length ≤ 12 ∨ (sN (M_give s c m) (2 * c + 1)).length ≤ (sN s (2 * c + 1)).length) := by
  unfold M_give
  split
  · rename_i hq
    refine ⟨sI_send _ _ _, sJ_send _ _ _, sX_send _ _ _, sP_send _ _ _, sB_send _ _ _, fun l hl => sN_send_ne _ _ _ hl, fun l _ => by rw [sM_send], Or.inr (by rw [sM_send]; exact Nat.le_refl _), Or.inl ?_⟩
    have := sN_send_len s c (M_pkt m 0 false)
    omega
  · split
    · rename_i hq
      refine ⟨rfl, rfl, rfl, rfl, rfl, fun _ _ => rfl, fun l hl => by simp [st_a, hl], Or.inl ?_, Or.inr (Nat.le_refl _)⟩
      simp [st_a]; omega
    · exact ⟨rfl, rfl, rfl, rfl, rfl, fun _ _ => rfl, fun _ _ => rfl, Or.inr (Nat.le_refl _), Or.inr (Nat.le_refl _)⟩
theorem M_gvF_ok : ∀ (B : List hb_Ms) (s : hb_S) (c : Nat) (f : Int64) (q : Int32), sI (M_gvF B s c f q) = sI s ∧ sJ (M_gvF B s c f q) = sJ s ∧ sX (M_gvF B s c f q) = sX s ∧ sP (M_gvF B s c f q) = sP s ∧ sB (M_gvF B s c f q) = sB s ∧ (∀ l, l ≠ 2 * c + 1 → sN (M_gvF B s c f q) l = sN s l) ∧ (∀ l, l ≠ c → sM (M_gvF B s c f q) l = sM s l) ∧ ((sM (M_gvF B s c f q) c).length + (sP s (3 + c)).length ≤ 6 ∨ (sM (M_gvF B s c f q) c).length ≤ (sM s c).length) ∧ ((sN (M_gvF B s c f q) (2 * c + 1)).length ≤ 12 ∨ (sN (M_gvF B s c f q) (2 * c + 1)).length ≤ (sN s (2 * c + 1)).length) := by
  intro B
  induction B with
  | nil => intro s c f q; exact ⟨rfl, rfl, rfl, rfl, rfl, fun _ _ => rfl, fun _ _ => rfl, Or.inr (Nat.le_refl _), Or.inr (Nat.le_refl _)⟩
  | cons m B ih =>
    intro s c f q
    rw [M_gvF]
    by_cases hc : tc_cov f m.1 = true
    · rw [if_pos hc]
      obtain ⟨a1, a2, a3, a4, a5, a6, a7, a8, a9⟩ := M_give_ok s c (m.1, m.2.1, if q < m.2.2.1 then q else m.2.2.1, true)
      obtain ⟨b1, b2, b3, b4, b5, b6, b7, b8, b9⟩ := ih (M_give s c (m.1, m.2.1, if q < m.2.2.1 then q else m.2.2.1, true)) c f q
      rw [a4] at b8
      exact ⟨b1.trans a1, b2.trans a2, b3.trans a3, b4.trans a4, b5.trans a5, fun l hl => (b6 l hl).trans (a6 l hl), fun l hl => (b7 l hl).trans (a7 l hl), by omega, by omega⟩
    · rw [if_neg hc]; exact ih s c f q
theorem M_agF_ok : ∀ (B : List hb_Pa) (s : hb_S) (c : Nat), sI (M_agF B s c) = sI s ∧ sJ (M_agF B s c) = sJ s ∧ sX (M_agF B s c) = sX s ∧ sP (M_agF B s c) = sP s ∧ sB (M_agF B s c) = sB s ∧ (∀ l, l ≠ 2 * c + 1 → sN (M_agF B s c) l = sN s l) ∧ sM (M_agF B s c) = sM s ∧ (sN (M_agF B s c) (2 * c + 1)).length ≤ (sN s (2 * c + 1)).length + B.length := by
  intro B
  induction B with
  | nil => intro s c; exact ⟨rfl, rfl, rfl, rfl, rfl, fun _ _ => rfl, rfl, Nat.le_refl _⟩
  | cons x B ih =>
    intro s c
    rw [M_agF]
    obtain ⟨b1, b2, b3, b4, b5, b6, b7, b8⟩ := ih (M_send s c (pa_rp x)) c
    have := sN_send_len s c (pa_rp x)
    refine ⟨b1.trans (sI_send _ _ _), b2.trans (sJ_send _ _ _), b3.trans (sX_send _ _ _), b4.trans (sP_send _ _ _), b5.trans (sB_send _ _ _), fun l hl => (b6 l hl).trans (sN_send_ne _ _ _ hl), b7.trans (sM_send _ _ _), ?_⟩
    rw [List.length_cons]; omega
theorem M_enter_ok (s : hb_S) (c : Nat) (f : Int64) (q : Int32) (nl : Bool) : sI (M_enter s c f q nl).1 = sI s ∧ sJ (M_enter s c f q nl).1 = sJ s ∧ sX (M_enter s c f q nl).1 = sX s ∧ sN (M_enter s c f q nl).1 = sN s ∧ sP (M_enter s c f q nl).1 = sP s ∧ sM (M_enter s c f q nl).1 = sM s ∧ (∀ l, l ≠ c → sB (M_enter s c f q nl).1 l = sB s l) ∧ ((sB s c).length ≤ 4 → (sB (M_enter s c f q nl).1 c).length ≤ 4) := by
  unfold M_enter
  split
  · exact ⟨rfl, rfl, rfl, rfl, rfl, rfl, fun l hl => by simp [st_a, hl], fun h => by simp [st_a]; omega⟩
  · split
    · exact ⟨rfl, rfl, rfl, rfl, rfl, rfl, fun l hl => by simp [st_a, hl], fun h => by simp [st_a]; omega⟩
    · exact ⟨rfl, rfl, rfl, rfl, rfl, rfl, fun _ _ => rfl, fun h => h⟩
section RC
variable {z : Nat × Nat} {sz dyn : Nat} {mu : Nat → Option ev_E} {c : Nat} {Q : ev_O → Prop}
theorem sp_rp_tail {n1 n2 : Nat} {G : hb_G} {s : hb_S} {h : ev_H} {pa : Nat} {id va : Int32} {tx : Int64} {qu : Int32} {ag mr ok : Bool} {wi ke wv : Int32} {y4 y5 y7 : Option Value} (R : hb_R z sz dyn mu G n1 n2 s h) (hc : c < 3) (hp : pk_at dyn G h pa (3, id, va, tx, qu, ag, mr, wi, ke, wv)) (hd : (sN s (2 * c + 1)).length ≤ 20) (k : ∀ (G' : hb_G) (h' : ev_H), hb_R z sz dyn mu G' (n1 + 2) (n2 + 50) (M_rpB (s, ok) c id qu) h' → hb_E dyn G h G' h' → Q (none, h')) : ev_W (mk_B_receivePublish z) (83, [some (.ref (sz + 24)), some (.int (nI c)), some (.ref pa), some (.ref (sz + (33 + 6 * c))), y4, y5, some (.int (zb ok)), y7], [], h) Q := by
  unfold M_rpB at k
  dsimp only at k
  refine ev_W.fn rfl rfl ?_
  refine ev_W.br rfl rfl (fun h1 => ?_) (fun h1 => ?_)
  · have hok : ok = false := zb_n0.mp h1
    subst hok
    refine ev_W.fn rfl rfl ?_
    refine ev_W.fn rfl rfl ?_
    refine ev_W.fn rfl rfl ?_
    refine ev_W.obj rfl hp.1 rfl ?_
    refine ev_W.fn rfl rfl ?_
    refine ev_W.br rfl rfl (fun h2 => ?_) (fun h2 => ?_)
    · refine ev_W.fn rfl rfl ?_
      refine ev_W.obj rfl hp.1 rfl ?_
      refine ev_W.fn rfl rfl ?_
      refine ev_W.br rfl rfl (fun h3 => ?_) (fun h3 => ?_)
      · refine ev_W.ret rfl rfl ?_
        rw [if_neg h2, if_neg h3] at k
        exact k _ _ (R.up (by omega) (by omega)) hb_E.rf
      · have h3 := Decidable.not_not.mp h3
        rw [if_neg h2, if_pos h3] at k
        refine ev_W.fn rfl rfl ?_
        refine ev_W.fn rfl rfl ?_
        refine ev_W.fn rfl rfl ?_
        refine ev_W.fn rfl rfl ?_
        refine ev_W.nw R rfl (fun G1 u1 a1 R1 E1 na1 => ?_)
        have hp := E1.pk R hp
        refine ev_W.fn rfl rfl ?_
        refine ev_W.fn rfl rfl ?_
        refine ev_W.fn rfl rfl ?_
        refine ev_W.obj rfl hp.1 rfl ?_
        refine ev_W.fn rfl rfl ?_
        refine ev_W.clI rfl rfl rfl rfl rfl ?_
        refine sp_P_new R1 na1 (fun G2 u2 R2 E2 hp2 => ?_)
        have hp := E2.pk R1 hp
        refine ev_W.clR rfl rfl rfl rfl rfl R2.o5 ?_
        refine sp_B_send R2 hc hd hp2 (fun G3 u3 R3 E3 => ?_)
        have hp := E3.pk R2 hp
        have hp2 := E3.pk R2 hp2
        refine ev_W.ret rfl rfl ?_
        exact k _ _ (R3.up (by omega) (by omega)) (E1.tr (E2.tr E3))
    · have h2 := Decidable.not_not.mp h2
      rw [if_pos h2] at k
      refine ev_W.fn rfl rfl ?_
      refine ev_W.fn rfl rfl ?_
      refine ev_W.nw R rfl (fun G4 u4 a4 R4 E4 na4 => ?_)
      have hp := E4.pk R hp
      refine ev_W.fn rfl rfl ?_
      refine ev_W.fn rfl rfl ?_
      refine ev_W.fn rfl rfl ?_
      refine ev_W.obj rfl hp.1 rfl ?_
      refine ev_W.fn rfl rfl ?_
      refine ev_W.clI rfl rfl rfl rfl rfl ?_
      refine sp_P_new R4 na4 (fun G5 u5 R5 E5 hp5 => ?_)
      have hp := E5.pk R4 hp
      refine ev_W.clR rfl rfl rfl rfl rfl R5.o5 ?_
      refine sp_B_send R5 hc hd hp5 (fun G6 u6 R6 E6 => ?_)
      have hp := E6.pk R5 hp
      have hp5 := E6.pk R5 hp5
      refine ev_W.fn rfl rfl ?_
      refine ev_W.ret rfl rfl ?_
      exact k _ _ (R6.up (by omega) (by omega)) (E4.tr (E5.tr E6))
  · have hok : ok = true := zb_1.mp h1
    subst hok
    refine ev_W.fn rfl rfl ?_
    refine ev_W.fn rfl rfl ?_
    refine ev_W.fn rfl rfl ?_
    refine ev_W.fn rfl rfl ?_
    refine ev_W.obj rfl hp.1 rfl ?_
    refine ev_W.fn rfl rfl ?_
    refine ev_W.br rfl rfl (fun h2 => ?_) (fun h2 => ?_)
    · refine ev_W.fn rfl rfl ?_
      refine ev_W.obj rfl hp.1 rfl ?_
      refine ev_W.fn rfl rfl ?_
      refine ev_W.br rfl rfl (fun h3 => ?_) (fun h3 => ?_)
      · refine ev_W.ret rfl rfl ?_
        rw [if_neg h2, if_neg h3] at k
        exact k _ _ (R.up (by omega) (by omega)) hb_E.rf
      · have h3 := Decidable.not_not.mp h3
        rw [if_neg h2, if_pos h3] at k
        refine ev_W.fn rfl rfl ?_
        refine ev_W.fn rfl rfl ?_
        refine ev_W.fn rfl rfl ?_
        refine ev_W.fn rfl rfl ?_
        refine ev_W.obj rfl hp.1 rfl ?_
        refine ev_W.clR rfl rfl rfl rfl rfl (R.o4s hc) ?_
        refine sp_hs_add R hc (fun u7 R7 E7 => ?_)
        have hp := E7.pk R hp
        refine ev_W.fn rfl rfl ?_
        refine ev_W.fn rfl rfl ?_
        refine ev_W.nw R7 rfl (fun G8 u8 a8 R8 E8 na8 => ?_)
        have hp := E8.pk R7 hp
        refine ev_W.fn rfl rfl ?_
        refine ev_W.fn rfl rfl ?_
        refine ev_W.fn rfl rfl ?_
        refine ev_W.obj rfl hp.1 rfl ?_
        refine ev_W.fn rfl rfl ?_
        refine ev_W.clI rfl rfl rfl rfl rfl ?_
        refine sp_P_new R8 na8 (fun G9 u9 R9 E9 hp9 => ?_)
        have hp := E9.pk R8 hp
        refine ev_W.clR rfl rfl rfl rfl rfl R9.o5 ?_
        refine sp_B_send R9 hc hd hp9 (fun G10 u10 R10 E10 => ?_)
        have hp := E10.pk R9 hp
        have hp9 := E10.pk R9 hp9
        refine ev_W.ret rfl rfl ?_
        exact k _ _ (R10.up (by omega) (by omega)) (E7.tr (E8.tr (E9.tr E10)))
    · have h2 := Decidable.not_not.mp h2
      rw [if_pos h2] at k
      refine ev_W.fn rfl rfl ?_
      refine ev_W.fn rfl rfl ?_
      refine ev_W.nw R rfl (fun G11 u11 a11 R11 E11 na11 => ?_)
      have hp := E11.pk R hp
      refine ev_W.fn rfl rfl ?_
      refine ev_W.fn rfl rfl ?_
      refine ev_W.fn rfl rfl ?_
      refine ev_W.obj rfl hp.1 rfl ?_
      refine ev_W.fn rfl rfl ?_
      refine ev_W.clI rfl rfl rfl rfl rfl ?_
      refine sp_P_new R11 na11 (fun G12 u12 R12 E12 hp12 => ?_)
      have hp := E12.pk R11 hp
      refine ev_W.clR rfl rfl rfl rfl rfl R12.o5 ?_
      refine sp_B_send R12 hc hd hp12 (fun G13 u13 R13 E13 => ?_)
      have hp := E13.pk R12 hp
      have hp12 := E13.pk R12 hp12
      refine ev_W.fn rfl rfl ?_
      refine ev_W.ret rfl rfl ?_
      exact k _ _ (R13.up (by omega) (by omega)) (E11.tr (E12.tr E13))
theorem sp_B_rp {n1 n2 : Nat} {G : hb_G} {s : hb_S} {h : ev_H} {pa : Nat} {id va : Int32} {tx : Int64} {qu : Int32} {ag mr : Bool} {wi ke wv : Int32} (R : hb_R z sz dyn mu G n1 n2 s h) (hc : c < 3) (hp : pk_at dyn G h pa (3, id, va, tx, qu, ag, mr, wi, ke, wv)) (hb : ∀ j, j < 3 → ba 17 s j) (k : ∀ (G' : hb_G) (h' : ev_H), hb_R z sz dyn mu G' (n1 + 76) (n2 + 1579) (M_rp s c id va tx qu mr) h' → hb_E dyn G h G' h' → Q (none, h')) : ev_M (mf_B_receivePublish z) [.ref (sz + 24), .int (nI c), .ref pa] h Q := by
  unfold M_rp M_rpA at k
  have hd : ∀ {s' : hb_S}, ba 17 s' c → (sN s' (2 * c + 1)).length ≤ 20 := fun h => by have := h.2.2; omega
  have hba := M_acc_ba (D := 17) (c := c) (m := (tx, va, qu, mr)) (by decide) (fun j hj => (hb j hj).mono (by decide)) hc (hb c hc)
  refine ev_M.go rfl rfl ?_
  refine ev_W.fn rfl rfl ?_
  refine ev_W.obj rfl R.o5 rfl ?_
  refine ev_W.fn rfl rfl ?_
  refine ev_W.sk R hc rfl ?_
  refine ev_W.obj rfl (R.o7 hc) rfl ?_
  refine ev_W.fn rfl rfl ?_
  refine ev_W.fn rfl rfl ?_
  refine ev_W.obj rfl hp.1 rfl ?_
  refine ev_W.fn rfl rfl ?_
  refine ev_W.br rfl rfl (fun h1 => ?_) (fun h1 => ?_)
  · rw [if_neg (fun q => h1 q.1)] at k
    refine ev_W.fn rfl rfl ?_
    refine ev_W.fn rfl rfl ?_
    refine ev_W.nw R rfl (fun G1 u1 a1 R1 E1 na1 => ?_)
    have hp := E1.pk R hp
    refine ev_W.fn rfl rfl ?_
    refine ev_W.fn rfl rfl ?_
    refine ev_W.obj rfl hp.1 rfl ?_
    refine ev_W.fn rfl rfl ?_
    refine ev_W.obj rfl hp.1 rfl ?_
    refine ev_W.fn rfl rfl ?_
    refine ev_W.obj rfl hp.1 rfl ?_
    refine ev_W.fn rfl rfl ?_
    refine ev_W.obj rfl hp.1 rfl ?_
    refine ev_W.clI rfl rfl rfl rfl rfl ?_
    refine sp_M_new R1 na1 (fun G2 u2 R2 E2 hp2 => ?_)
    have hp := E2.pk R1 hp
    refine ev_W.fn rfl rfl ?_
    refine ev_W.fn rfl rfl ?_
    refine ev_W.fn rfl rfl ?_
    refine ev_W.fn rfl rfl ?_
    refine ev_W.fn rfl rfl ?_
    refine ev_W.fn rfl rfl ?_
    refine ev_W.clR rfl rfl rfl rfl rfl R2.o5 ?_
    refine sp_B_accept R2 hc hp2 hb (fun G3 u3 R3 E3 => ?_)
    have hp := E3.pk R2 hp
    have hp2 := E3.ms R2 hp2
    refine ev_W.br rfl rfl (fun h9 => ?_) (fun h9 => ?_)
    · have h9 := zb_n0.mp h9
      refine ev_W.fn rfl rfl ?_
      refine ev_W.fn rfl rfl ?_
      refine sp_rp_tail (ok := false) R3 hc hp (hd hba) (fun G' h' R' E' => k _ _ ?_ ((E1.tr (E2.tr E3)).tr E'))
      rw [← h9] at R'
      exact R'.up (by omega) (by omega)
    · have h9 := zb_1.mp h9
      refine ev_W.fn rfl rfl ?_
      refine ev_W.fn rfl rfl ?_
      refine ev_W.fn rfl rfl ?_
      refine sp_rp_tail (ok := true) R3 hc hp (hd hba) (fun G' h' R' E' => k _ _ ?_ ((E1.tr (E2.tr E3)).tr E'))
      rw [← h9] at R'
      exact R'.up (by omega) (by omega)
  · refine ev_W.fn rfl rfl ?_
    refine ev_W.fn rfl rfl ?_
    refine ev_W.obj rfl hp.1 rfl ?_
    refine ev_W.clR rfl rfl rfl rfl rfl (R.o4s hc) ?_
    refine sp_I_has (R.o4s hc) ?_
    refine ev_W.br rfl rfl (fun h2 => ?_) (fun h2 => ?_)
    · rw [if_neg (fun q => by have := zb_n0.mp h2; rw [show hbit (sI s 13 c) id = false from this] at q; cases q.2)] at k
      refine ev_W.fn rfl rfl ?_
      refine ev_W.fn rfl rfl ?_
      refine ev_W.nw R rfl (fun G4 u4 a4 R4 E4 na4 => ?_)
      have hp := E4.pk R hp
      refine ev_W.fn rfl rfl ?_
      refine ev_W.fn rfl rfl ?_
      refine ev_W.obj rfl hp.1 rfl ?_
      refine ev_W.fn rfl rfl ?_
      refine ev_W.obj rfl hp.1 rfl ?_
      refine ev_W.fn rfl rfl ?_
      refine ev_W.obj rfl hp.1 rfl ?_
      refine ev_W.fn rfl rfl ?_
      refine ev_W.obj rfl hp.1 rfl ?_
      refine ev_W.clI rfl rfl rfl rfl rfl ?_
      refine sp_M_new R4 na4 (fun G5 u5 R5 E5 hp5 => ?_)
      have hp := E5.pk R4 hp
      refine ev_W.fn rfl rfl ?_
      refine ev_W.fn rfl rfl ?_
      refine ev_W.fn rfl rfl ?_
      refine ev_W.fn rfl rfl ?_
      refine ev_W.fn rfl rfl ?_
      refine ev_W.fn rfl rfl ?_
      refine ev_W.clR rfl rfl rfl rfl rfl R5.o5 ?_
      refine sp_B_accept R5 hc hp5 hb (fun G6 u6 R6 E6 => ?_)
      have hp := E6.pk R5 hp
      have hp5 := E6.ms R5 hp5
      refine ev_W.br rfl rfl (fun h9 => ?_) (fun h9 => ?_)
      · have h9 := zb_n0.mp h9
        refine ev_W.fn rfl rfl ?_
        refine ev_W.fn rfl rfl ?_
        refine sp_rp_tail (ok := false) R6 hc hp (hd hba) (fun G' h' R' E' => k _ _ ?_ ((E4.tr (E5.tr E6)).tr E'))
        rw [← h9] at R'
        exact R'.up (by omega) (by omega)
      · have h9 := zb_1.mp h9
        refine ev_W.fn rfl rfl ?_
        refine ev_W.fn rfl rfl ?_
        refine ev_W.fn rfl rfl ?_
        refine sp_rp_tail (ok := true) R6 hc hp (hd hba) (fun G' h' R' E' => k _ _ ?_ ((E4.tr (E5.tr E6)).tr E'))
        rw [← h9] at R'
        exact R'.up (by omega) (by omega)
    · have h2 : hbit (sI s 13 c) id = true := zb_1.mp h2
      rw [if_pos ⟨Decidable.not_not.mp h1, h2⟩] at k
      refine ev_W.fn rfl rfl ?_
      refine ev_W.fn rfl rfl ?_
      refine ev_W.fn rfl rfl ?_
      refine ev_W.nw R rfl (fun G7 u7 a7 R7 E7 na7 => ?_)
      have hp := E7.pk R hp
      refine ev_W.fn rfl rfl ?_
      refine ev_W.fn rfl rfl ?_
      refine ev_W.obj rfl hp.1 rfl ?_
      refine ev_W.fn rfl rfl ?_
      refine ev_W.obj rfl hp.1 rfl ?_
      refine ev_W.fn rfl rfl ?_
      refine ev_W.obj rfl hp.1 rfl ?_
      refine ev_W.fn rfl rfl ?_
      refine ev_W.obj rfl hp.1 rfl ?_
      refine ev_W.clI rfl rfl rfl rfl rfl ?_
      refine sp_M_new R7 na7 (fun G8 u8 R8 E8 hp8 => ?_)
      have hp := E8.pk R7 hp
      refine ev_W.fn rfl rfl ?_
      refine ev_W.fn rfl rfl ?_
      refine ev_W.fn rfl rfl ?_
      refine ev_W.fn rfl rfl ?_
      refine ev_W.fn rfl rfl ?_
      refine ev_W.fn rfl rfl ?_
      exact sp_rp_tail (ok := true) R8 hc hp (hd (hb c hc)) (fun G' h' R' E' => k _ _ (R'.up (by omega) (by omega)) ((E7.tr E8).tr E'))
theorem sp_B_ru {n1 n2 : Nat} {G : hb_G} {s : hb_S} {h : ev_H} {pa : Nat} {id va : Int32} {tx : Int64} {ty qu : Int32} {ag mr : Bool} {wi ke wv : Int32} (R : hb_R z sz dyn mu G n1 n2 s h) (hc : c < 3) (hp : pk_at dyn G h pa (ty, id, va, tx, qu, ag, mr, wi, ke, wv)) (hd : (sN s (2 * c + 1)).length ≤ 20) (k : ∀ (G' : hb_G) (h' : ev_H), hb_R z sz dyn mu G' (n1 + 2) (n2 + 50) (M_ru s c tx) h' → hb_E dyn G h G' h' → Q (none, h')) : ev_M (mf_B_receiveUnsubscribe z) [.ref (sz + 24), .int (nI c), .ref pa] h Q := by
  have hlen := R.blen hc
  unfold M_ru at k
  refine ev_M.go rfl rfl ?_
  refine ev_W.fn rfl rfl ?_
  refine ev_W.obj rfl R.o5 rfl ?_
  refine ev_W.fn rfl rfl ?_
  refine ev_W.sk R hc rfl ?_
  refine ev_W.fn rfl rfl ?_
  refine ev_W.fn rfl rfl ?_
  refine ev_W.fn rfl rfl ?_
  refine ev_W.obj rfl hp.1 rfl ?_
  refine ev_W.clR rfl rfl rfl rfl rfl (R.o7 hc) ?_
  refine sp_S_find R hc ?_
  cases hix : ix_of (fun x => decide (x.1 = tx)) (sB s c) 0 with
  | none =>
    rw [hix] at k
    dsimp only at k
    refine ev_W.fn rfl rfl ?_
    refine ev_W.fn rfl rfl ?_
    refine ev_W.fn rfl rfl ?_
    refine ev_W.fn rfl rfl ?_
    refine ev_W.fn rfl rfl ?_
    refine ev_W.nw R rfl (fun G1 u1 a1 R1 E1 na1 => ?_)
    have hp := E1.pk R hp
    refine ev_W.fn rfl rfl ?_
    refine ev_W.fn rfl rfl ?_
    refine ev_W.fn rfl rfl ?_
    refine ev_W.fn rfl rfl ?_
    refine ev_W.fn rfl rfl ?_
    refine ev_W.fn rfl rfl ?_
    refine ev_W.clI rfl rfl rfl rfl rfl ?_
    refine sp_P_new R1 na1 (fun G2 u2 R2 E2 hp2 => ?_)
    have hp := E2.pk R1 hp
    refine ev_W.clR rfl rfl rfl rfl rfl R2.o5 ?_
    refine sp_B_send R2 hc hd hp2 (fun G3 u3 R3 E3 => ?_)
    have hp := E3.pk R2 hp
    have hp2 := E3.pk R2 hp2
    refine ev_W.ret rfl rfl ?_
    exact k _ _ (R3.up (by omega) (by omega)) (E1.tr (E2.tr E3))
  | some i =>
    rw [hix] at k
    dsimp only at k
    obtain ⟨x, -, hx, -⟩ := ix_of_some hix
    have hil : i < (sB s c).length := (List.getElem?_eq_some_iff.mp hx).1
    refine ev_W.fn rfl rfl ?_
    refine ev_W.fn rfl rfl ?_
    refine ev_W.brF rfl rfl (on_i_nn (by omega)) ?_
    refine ev_W.fn rfl rfl ?_
    refine ev_W.obj rfl (R.o7 hc) rfl ?_
    refine ev_W.fn rfl rfl ?_
    refine ev_W.clR rfl rfl rfl rfl rfl (R.lo (bl_lt hc)) ?_
    refine R.brem hc hx (fun G1 u1 a1 R1 E1 => ?_)
    have hp := E1.pk R hp
    refine ev_W.fn rfl rfl ?_
    refine ev_W.fn rfl rfl ?_
    refine ev_W.fn rfl rfl ?_
    refine ev_W.nw R1 rfl (fun G2 u2 a2 R2 E2 na2 => ?_)
    have hp := E2.pk R1 hp
    refine ev_W.fn rfl rfl ?_
    refine ev_W.fn rfl rfl ?_
    refine ev_W.fn rfl rfl ?_
    refine ev_W.fn rfl rfl ?_
    refine ev_W.brF rfl rfl (on_i_nn (by omega)) ?_
    refine ev_W.fn rfl rfl ?_
    refine ev_W.fn rfl rfl ?_
    refine ev_W.clI rfl rfl rfl rfl rfl ?_
    refine sp_P_new R2 na2 (fun G3 u3 R3 E3 hp3 => ?_)
    have hp := E3.pk R2 hp
    refine ev_W.clR rfl rfl rfl rfl rfl R3.o5 ?_
    refine sp_B_send R3 hc hd hp3 (fun G4 u4 R4 E4 => ?_)
    have hp := E4.pk R3 hp
    have hp3 := E4.pk R3 hp3
    refine ev_W.ret rfl rfl ?_
    exact k _ _ (R4.up (by omega) (by omega)) (E1.tr (E2.tr (E3.tr E4)))
theorem sp_gv_loop (hc : c < 3) {pa : Nat} {id va : Int32} {tx : Int64} {ty qu : Int32} {ag mr : Bool} {wi ke wv x3 : Int32} : ∀ (B A : List hb_Ms) (n1 n2 : Nat) (G : hb_G) (s : hb_S) (h : ev_H) (x6 : Option Value), hb_R z sz dyn mu G n1 n2 s h → pk_at dyn G h pa (ty, id, va, tx, qu, ag, mr, wi, ke, wv) → sM s 3 = A ++ B → (∀ (G' : hb_G) (h' : ev_H) (y5 y6 : Option Value), hb_R z sz dyn mu G' (n1 + 3 * B.length) (n2 + 54 * B.length) (M_gvF B s c tx va) h' → hb_E dyn G h G' h' → ev_W (mk_B_receiveSubscribe z) (136, [some (.ref (sz + 24)), some (.int (nI c)), some (.ref pa), some (.int x3), some (.int (nI (A.length + B.length))), y5, y6], [], h') Q) → ev_W (mk_B_receiveSubscribe z) (71, [some (.ref (sz + 24)), some (.int (nI c)), some (.ref pa), some (.int x3), some (.int (nI (A.length + B.length))), some (.int (nI A.length)), x6], [], h) Q := by
  intro B
  induction B with
  | nil =>
    intro A n1 n2 G s h x6 R hp hs k
    have hlen := R.mlen (l := 3) (by decide)
    have hL : (sM s 3).length = A.length := by rw [hs]; simp
    refine ev_W.fn rfl rfl ?_
    refine ev_W.fn rfl rfl ?_
    refine ev_W.brT rfl rfl (nI_le (by simp) (by omega)) ?_
    exact k _ _ _ _ R hb_E.rf
  | cons m B ih =>
    intro A n1 n2 G s h x6 R hp hs k
    have hlen := R.mlen (l := 3) (by decide)
    have hL : (sM s 3).length = A.length + 1 + B.length := by rw [hs]; simp; omega
    have hix : (sM s 3)[A.length]? = some m := by rw [hs]; simp
    rw [List.length_cons] at k ⊢
    rw [M_gvF] at k
    obtain ⟨t, v, mq, rt⟩ := m
    dsimp only at k
    have next : ∀ (G2 : hb_G) (s2 : hb_S) (h2 : ev_H) (y : Option Value), hb_R z sz dyn mu G2 (n1 + 3) (n2 + 54) s2 h2 → sM s2 3 = sM s 3 → hb_E dyn G h G2 h2 → pk_at dyn G2 h2 pa (ty, id, va, tx, qu, ag, mr, wi, ke, wv) → (if tc_cov tx t = true then M_give s c (t, v, if va < mq then va else mq, true) else s) = s2 → ev_W (mk_B_receiveSubscribe z) (130, [some (.ref (sz + 24)), some (.int (nI c)), some (.ref pa), some (.int x3), some (.int (nI (A.length + (B.length + 1)))), some (.int (nI A.length)), y], [], h2) Q := by
      intro G2 s2 h2 y R2 e3 E2 hp2 he
      rw [he] at k
      refine ev_W.fn rfl rfl ?_
      refine ev_W.fn rfl rfl ?_
      have e4 : (A ++ [(t, v, mq, rt)]).length + B.length = A.length + (B.length + 1) := by simp; omega
      have := ih (A ++ [(t, v, mq, rt)]) _ _ G2 s2 h2 y R2 hp2 (by rw [e3, hs]; simp) (fun G' h' y5 y6 R' E' => by rw [e4]; exact k G' h' y5 y6 (R'.up (by omega) (by omega)) (E2.tr E'))
      rw [e4, List.length_append] at this
      have e2 : nI (A.length + [(t, v, mq, rt)].length) = nI A.length + 1 := (nI_1 _).symm
      rw [e2] at this
      exact this
    refine ev_W.fn rfl rfl ?_
    refine ev_W.fn rfl rfl ?_
    refine ev_W.brF rfl rfl (nI_ge (by omega) (by omega)) ?_
    refine ev_W.fn rfl rfl ?_
    refine ev_W.obj rfl R.o5 rfl ?_
    refine ev_W.fn rfl rfl ?_
    refine ev_W.clR rfl rfl rfl rfl rfl (R.lo (hb_mj_lt (by decide))) ?_
    refine R.mget (by decide) hix (fun a1 hp1 => ?_)
    refine ev_W.cast rfl hp1.1 ?_
    refine ev_W.fn rfl rfl ?_
    refine ev_W.fn rfl rfl ?_
    refine ev_W.obj rfl hp.1 rfl ?_
    refine ev_W.fn rfl rfl ?_
    refine ev_W.obj rfl hp1.1 rfl ?_
    refine ev_W.cl rfl rfl rfl rfl rfl ?_
    refine sp_T_covers ?_
    refine ev_W.br rfl rfl (fun h1 => ?_) (fun h1 => ?_)
    · have h1 := zb_n0.mp h1
      exact next _ _ _ _ (R.up (by omega) (by omega)) rfl hb_E.rf hp (by rw [h1]; rfl)
    · have h1 := zb_1.mp h1
      refine ev_W.fn rfl rfl ?_
      refine ev_W.fn rfl rfl ?_
      refine ev_W.fn rfl rfl ?_
      refine ev_W.fn rfl rfl ?_
      refine ev_W.obj rfl hp1.1 rfl ?_
      refine ev_W.fn rfl rfl ?_
      refine ev_W.obj rfl hp.1 rfl ?_
      refine ev_W.fn rfl rfl ?_
      refine ev_W.fn rfl rfl ?_
      refine ev_W.clR rfl rfl rfl rfl rfl hp1.1 ?_
      refine sp_M_cp (rt := true) R hp1 (fun G2 u2 a2 R2 E2 hp2 => ?_)
      have hp := E2.pk R hp
      have hp1 := E2.ms R hp1
      refine ev_W.clR rfl rfl rfl rfl rfl R2.o5 ?_
      refine sp_B_give R2 hc hp2 (fun G3 u3 R3 E3 => ?_)
      have hp := E3.pk R2 hp
      have hp1 := E3.ms R2 hp1
      have hp2 := E3.ms R2 hp2
      exact next _ _ _ _ (R3.up (by omega) (by omega)) ((M_give_ok _ _ _).2.2.2.2.2.2.1 3 (by omega)) (E2.tr E3) hp (by rw [h1]; rfl)
theorem sp_B_rs {n1 n2 : Nat} {G : hb_G} {s : hb_S} {h : ev_H} {pa : Nat} {id va : Int32} {tx : Int64} {ty qu : Int32} {ag mr : Bool} {wi ke wv : Int32} (R : hb_R z sz dyn mu G n1 n2 s h) (hc : c < 3) (hp : pk_at dyn G h pa (ty, id, va, tx, qu, ag, mr, wi, ke, wv)) (hw : sI s 6 c ≤ 3) (hd : (sN s (2 * c + 1)).length ≤ 16 + (sP s (3 + c)).length) (hd2 : (sN s (2 * c + 1)).length ≤ 20) (k : ∀ (G' : hb_G) (h' : ev_H), hb_R z sz dyn mu G' (n1 + 136) (n2 + 2532) (M_rs s c tx va mr) h' → hb_E dyn G h G' h' → Q (none, h')) : ev_M (mf_B_receiveSubscribe z) [.ref (sz + 24), .int (nI c), .ref pa] h Q := by
  have hlen := R.mlen (l := 3) (by decide)
  obtain ⟨e1, e2, e3, e4, e5, e6, e7, e8⟩ := M_enter_ok s c tx va mr
  unfold M_rs at k
  refine ev_M.go rfl rfl ?_
  refine ev_W.fn rfl rfl ?_
  refine ev_W.obj rfl R.o5 rfl ?_
  refine ev_W.fn rfl rfl ?_
  refine ev_W.sk R hc rfl ?_
  refine ev_W.fn rfl rfl ?_
  refine ev_W.obj rfl hp.1 rfl ?_
  refine ev_W.fn rfl rfl ?_
  refine ev_W.obj rfl hp.1 rfl ?_
  refine ev_W.fn rfl rfl ?_
  refine ev_W.obj rfl hp.1 rfl ?_
  refine ev_W.clR rfl rfl rfl rfl rfl (R.o7 hc) ?_
  refine sp_S_enter R hc (fun G1 u1 R1 E1 => ?_)
  have hp := E1.pk R hp
  refine ev_W.fn rfl rfl ?_
  refine ev_W.fn rfl rfl ?_
  refine ev_W.fn rfl rfl ?_
  refine ev_W.nw R1 rfl (fun G2 u2 a2 R2 E2 na2 => ?_)
  have hp := E2.pk R1 hp
  refine ev_W.fn rfl rfl ?_
  refine ev_W.fn rfl rfl ?_
  refine ev_W.fn rfl rfl ?_
  refine ev_W.fn rfl rfl ?_
  refine ev_W.br rfl rfl (fun h1 => ?_) (fun h1 => ?_)
  · have h1 := zb_n0.mp h1
    rw [h1] at k
    refine ev_W.fn rfl rfl ?_
    refine ev_W.clI rfl rfl rfl rfl rfl ?_
    refine sp_P_new R2 na2 (fun G3 u3 R3 E3 hp3 => ?_)
    have hp := E3.pk R2 hp
    refine ev_W.clR rfl rfl rfl rfl rfl R3.o5 ?_
    refine sp_B_send R3 hc (by rw [e4]; exact hd2) hp3 (fun G4 u4 R4 E4 => ?_)
    have hp := E4.pk R3 hp
    have hp3 := E4.pk R3 hp3
    refine ev_W.fn rfl rfl ?_
    refine ev_W.brT rfl rfl (by rw [h1]; rfl) ?_
    refine ev_W.fn rfl rfl ?_
    refine ev_W.fn rfl rfl ?_
    refine ev_W.fn rfl rfl ?_
    refine ev_W.fn rfl rfl ?_
    refine ev_W.fn rfl rfl ?_
    refine ev_W.fn rfl rfl ?_
    refine ev_W.fn rfl rfl ?_
    have sl := sN_send_len (M_enter s c tx va mr).1 c (mkp 9 0 151)
    rw [e4] at sl
    have sp : sP (M_send (M_enter s c tx va mr).1 c (mkp 9 0 151)) = sP s := (sP_send _ _ _).trans e5
    have si : sI (M_send (M_enter s c tx va mr).1 c (mkp 9 0 151)) = sI s := (sI_send _ _ _).trans e1
    have sm : sM (M_send (M_enter s c tx va mr).1 c (mkp 9 0 151)) = sM s := (sM_send _ _ _).trans e6
    refine ev_W.fn rfl rfl ?_
    refine ev_W.fn rfl rfl ?_
    refine ev_W.clR rfl rfl rfl rfl rfl R4.o5 ?_
    refine sp_B_pump R4 hc (show sI (M_send (M_enter s c tx va mr).1 c (mkp 9 0 151)) 6 c ≤ 3 by rw [si]; exact hw) (show (sN (M_send (M_enter s c tx va mr).1 c (mkp 9 0 151)) (2 * c + 1)).length ≤ 17 + (sP (M_send (M_enter s c tx va mr).1 c (mkp 9 0 151)) (3 + c)).length by rw [sp]; omega) (fun G9 u9 R9 E9 => ?_)
    refine ev_W.ret rfl rfl ?_
    exact k _ _ (R9.up (by omega) (by omega)) ((E1.tr (E2.tr (E3.tr E4))).tr E9)
  · have h1 := zb_1.mp h1
    rw [h1] at k
    refine ev_W.fn rfl rfl ?_
    refine ev_W.obj rfl hp.1 rfl ?_
    refine ev_W.fn rfl rfl ?_
    refine ev_W.clI rfl rfl rfl rfl rfl ?_
    refine sp_P_new R2 na2 (fun G5 u5 R5 E5 hp5 => ?_)
    have hp := E5.pk R2 hp
    refine ev_W.clR rfl rfl rfl rfl rfl R5.o5 ?_
    refine sp_B_send R5 hc (by rw [e4]; exact hd2) hp5 (fun G6 u6 R6 E6 => ?_)
    have hp := E6.pk R5 hp
    have hp5 := E6.pk R5 hp5
    refine ev_W.fn rfl rfl ?_
    refine ev_W.brF rfl rfl (by rw [h1]; decide) ?_
    refine ev_W.fn rfl rfl ?_
    refine ev_W.obj rfl R6.o5 rfl ?_
    refine ev_W.clR rfl rfl rfl rfl rfl (R6.lo (hb_mj_lt (by decide))) ?_
    refine R6.msize (by decide) ?_
    refine ev_W.fn rfl rfl ?_
    refine ev_W.fn rfl rfl ?_
    refine ev_W.fn rfl rfl ?_
    refine ev_W.fn rfl rfl ?_
    have sl := sN_send_len (M_enter s c tx va mr).1 c (mkp 9 0 va)
    rw [e4] at sl
    have sp : sP (M_send (M_enter s c tx va mr).1 c (mkp 9 0 va)) = sP s := (sP_send _ _ _).trans e5
    have si : sI (M_send (M_enter s c tx va mr).1 c (mkp 9 0 va)) = sI s := (sI_send _ _ _).trans e1
    have sm : sM (M_send (M_enter s c tx va mr).1 c (mkp 9 0 va)) = sM s := (sM_send _ _ _).trans e6
    have sm3 : sM (M_send (M_enter s c tx va mr).1 c (mkp 9 0 va)) 3 = sM s 3 := by rw [sm]
    obtain ⟨g1, g2, g3, g4, g5, g6, g7, g8, g9⟩ := M_gvF_ok (sM s 3) (M_send (M_enter s c tx va mr).1 c (mkp 9 0 va)) c tx va
    have lp := sp_gv_loop (Q := Q) hc (x3 := zb (M_enter s c tx va mr).2) (sM s 3) [] _ _ _ _ _ none R6 hp sm3 (fun G9 u9 y5 y6 R9 E9 => ?_)
    · rw [List.length_nil, Nat.zero_add] at lp
      rw [← sm3] at lp
      exact lp
    refine ev_W.fn rfl rfl ?_
    refine ev_W.fn rfl rfl ?_
    refine ev_W.clR rfl rfl rfl rfl rfl R9.o5 ?_
    refine sp_B_pump R9 hc (by rw [g1, si]; exact hw) (by rw [g4, sp]; omega) (fun G8 u8 R8 E8 => ?_)
    refine ev_W.ret rfl rfl ?_
    exact k _ _ (R8.up (by omega) (by omega)) ((E1.tr (E2.tr (E5.tr E6))).tr (E9.tr E8))
theorem sp_R_rep {n1 n2 : Nat} {G : hb_G} {s : hb_S} {h : ev_H} {j a ma : Nat} {x : hb_Pa} (R : hb_R z sz dyn mu G n1 n2 s h) (hpa : pa_at dyn G h j a ma x) (k : ∀ (G' : hb_G) (h' : ev_H) (p : Nat), hb_R z sz dyn mu G' (n1 + 1) (n2 + 10) s h' → hb_E dyn G h G' h' → pk_at dyn G' h' p (pa_rp x) → Q (some (.ref p), h')) : ev_M (mf_R_repeatedPacket z) [.ref a] h Q :=
  sp_R_repeatedPacket R hpa (fun G' h' p R' E' q1 q2 q3 => k G' h' p R' E' ⟨q1, q2, q3⟩)
theorem sp_ag_loop (hc : c < 3) {pa : Nat} : ∀ (B A : List hb_Pa) (n1 n2 : Nat) (G : hb_G) (s : hb_S) (h : ev_H), hb_R z sz dyn mu G n1 n2 s h → sP s (3 + c) = A ++ B → (sN s (2 * c + 1)).length + B.length ≤ 20 → (∀ (G' : hb_G) (h' : ev_H) (y4 : Option Value), hb_R z sz dyn mu G' (n1 + 2 * B.length) (n2 + 50 * B.length) (M_agF B s c) h' → hb_E dyn G h G' h' → ev_W (mk_B_receiveConnect z) (118, [some (.ref (sz + 24)), some (.int (nI c)), some (.ref pa), some (.ref (sz + (29 + 6 * c))), y4], [], h') Q) → ev_W (mk_B_receiveConnect z) (80, [some (.ref (sz + 24)), some (.int (nI c)), some (.ref pa), some (.ref (sz + (29 + 6 * c))), some (.int (nI A.length))], [], h) Q := by
  intro B
  induction B with
  | nil =>
    intro A n1 n2 G s h R hs hd k
    have hlen := R.plen (l := 3 + c) (by omega)
    have hL : (sP s (3 + c)).length = A.length := by rw [hs]; simp
    refine ev_W.fn rfl rfl ?_
    refine ev_W.fn rfl rfl ?_
    refine ev_W.obj rfl (R.o7 hc) rfl ?_
    refine ev_W.clR rfl rfl rfl rfl rfl (R.lo (hb_pj_lt (by omega))) ?_
    refine R.psize (by omega) ?_
    refine ev_W.brT rfl rfl (nI_le (by omega) (by omega)) ?_
    exact k _ _ _ R hb_E.rf
  | cons x B ih =>
    intro A n1 n2 G s h R hs hd k
    have hlen := R.plen (l := 3 + c) (by omega)
    have hL : (sP s (3 + c)).length = A.length + 1 + B.length := by rw [hs]; simp; omega
    have hix : (sP s (3 + c))[A.length]? = some x := by rw [hs]; simp
    rw [List.length_cons] at k hd
    rw [M_agF] at k
    have sl := sN_send_len s c (pa_rp x)
    refine ev_W.fn rfl rfl ?_
    refine ev_W.fn rfl rfl ?_
    refine ev_W.obj rfl (R.o7 hc) rfl ?_
    refine ev_W.clR rfl rfl rfl rfl rfl (R.lo (hb_pj_lt (by omega))) ?_
    refine R.psize (by omega) ?_
    refine ev_W.brF rfl rfl (nI_ge (by omega) (by omega)) ?_
    refine ev_W.fn rfl rfl ?_
    refine ev_W.fn rfl rfl ?_
    refine ev_W.fn rfl rfl ?_
    refine ev_W.obj rfl (R.o7 hc) rfl ?_
    refine ev_W.fn rfl rfl ?_
    refine ev_W.clR rfl rfl rfl rfl rfl (R.lo (hb_pj_lt (by omega))) ?_
    refine R.pget (by omega) hix (fun a1 ma1 ha1 hp1 => ?_)
    refine ev_W.cast rfl hp1.1 ?_
    refine ev_W.clR rfl rfl rfl rfl rfl hp1.1 ?_
    refine sp_R_rep R hp1 (fun G2 u2 a2 R2 E2 hp2 => ?_)
    refine ev_W.clR rfl rfl rfl rfl rfl R2.o5 ?_
    refine sp_B_send R2 hc (by omega) hp2 (fun G3 u3 R3 E3 => ?_)
    have hp2 := E3.pk R2 hp2
    refine ev_W.fn rfl rfl ?_
    refine ev_W.fn rfl rfl ?_
    have := ih (A ++ [x]) _ _ _ _ _ R3 (by rw [sP_send, hs]; simp) (by omega) (fun G' h' y4 R' E' => k G' h' y4 (R'.up (by omega) (by omega)) ((E2.tr E3).tr E'))
    rw [List.length_append] at this
    have e2 : nI (A.length + [x].length) = nI A.length + 1 := (nI_1 _).symm
    rw [e2] at this
    exact this
theorem sp_rc_mid {n1 n2 : Nat} {G : hb_G} {s : hb_S} {h : ev_H} {pa : Nat} {id va : Int32} {tx : Int64} {ty qu : Int32} {ag mr : Bool} {wi ke wv : Int32} {y4 : Option Value} (R : hb_R z sz dyn mu G n1 n2 s h) (hc : c < 3) (hp : pk_at dyn G h pa (ty, id, va, tx, qu, ag, mr, wi, ke, wv)) (hw : sI s 6 c ≤ 3) (hd : (sN s (2 * c + 1)).length ≤ 16) (hu : (sP s (3 + c)).length ≤ 3) (k : ∀ (G' : hb_G) (h' : ev_H), hb_R z sz dyn mu G' (n1 + 20) (n2 + 479) (M_pump (M_agF (sP s (3 + c)) (M_rc1 s c va) c) c) h' → hb_E dyn G h G' h' → Q (none, h')) : ev_W (mk_B_receiveConnect z) (38, [some (.ref (sz + 24)), some (.int (nI c)), some (.ref pa), some (.ref (sz + (29 + 6 * c))), y4], [], h) Q := by
  obtain ⟨v, hv⟩ : ∃ v : Int32, v = if sI s 10 c = 0 then 0 else 1 := ⟨_, rfl⟩
  have sl := sN_send_len s c (mkp 2 0 v)
  unfold M_rc1 at k
  rw [← hv] at k
  refine ev_W.fn rfl rfl ?_
  refine ev_W.fn rfl rfl ?_
  refine ev_W.nw R rfl (fun G1 u1 a1 R1 E1 na1 => ?_)
  have hp := E1.pk R hp
  refine ev_W.fn rfl rfl ?_
  refine ev_W.fn rfl rfl ?_
  refine ev_W.fn rfl rfl ?_
  refine ev_W.fn rfl rfl ?_
  refine ev_W.obj rfl (R1.o7 hc) rfl ?_
  refine ev_W.br rfl rfl (fun h1 => ?_) (fun h1 => ?_)
  · have hv : v = 0 := by rw [hv, if_pos h1]
    subst hv
    refine ev_W.fn rfl rfl ?_
    refine ev_W.clI rfl rfl rfl rfl rfl ?_
    refine sp_P_new R1 na1 (fun G2 u2 R2 E2 hp2 => ?_)
    have hp := E2.pk R1 hp
    refine ev_W.clR rfl rfl rfl rfl rfl R2.o5 ?_
    refine sp_B_send R2 hc (by omega) hp2 (fun G3 u3 R3 E3 => ?_)
    have hp := E3.pk R2 hp
    have hp2 := E3.pk R2 hp2
    refine ev_W.fn rfl rfl ?_
    refine ev_W.fn rfl rfl ?_
    refine ev_W.w10 R3 hc (Or.inr rfl) rfl (fun u4 R4 E4 => ?_)
    have hp := E4.pk R3 hp
    have hp2 := E4.pk R3 hp2
    refine ev_W.fn rfl rfl ?_
    refine ev_W.fn rfl rfl ?_
    refine ev_W.obj rfl hp.1 rfl ?_
    refine ev_W.w11 R4 hc rfl (fun u5 R5 E5 => ?_)
    have hp := E5.pk R4 hp
    have hp2 := E5.pk R4 hp2
    refine ev_W.fn rfl rfl ?_
    refine ev_W.fn rfl rfl ?_
    have e0 : sP s (3 + c) = sP (tI (tI (M_send s c (mkp 2 0 0)) 10 c 1) 11 c va) (3 + c) := by
      show _ = sP (M_send s c (mkp 2 0 0)) (3 + c)
      rw [sP_send]
    obtain ⟨g1, g2, g3, g4, g5, g6, g7, g8⟩ := M_agF_ok (sP s (3 + c)) (tI (tI (M_send s c (mkp 2 0 0)) 10 c 1) 11 c va) c
    have e1 : (sN (tI (tI (M_send s c (mkp 2 0 0)) 10 c 1) 11 c va) (2 * c + 1)).length ≤ 17 := by
      show (sN (M_send s c (mkp 2 0 0)) (2 * c + 1)).length ≤ 17
      omega
    refine sp_ag_loop hc (sP s (3 + c)) [] _ _ _ (tI (tI (M_send s c (mkp 2 0 0)) 10 c 1) 11 c va) _ R5 e0.symm (by omega) (fun Ga ua y4 Ra Ea => ?_)
    refine ev_W.fn rfl rfl ?_
    refine ev_W.fn rfl rfl ?_
    refine ev_W.clR rfl rfl rfl rfl rfl Ra.o5 ?_
    refine sp_B_pump Ra hc ?_ (by rw [g4, ← e0]; omega) (fun Gb ub Rb Eb => ?_)
    · rw [g1]
      show sI (M_send s c (mkp 2 0 0)) 6 c ≤ 3
      rw [sI_send]; exact hw
    refine ev_W.ret rfl rfl ?_
    exact k _ _ (Rb.up (by omega) (by omega)) ((E1.tr (E2.tr (E3.tr (E4.tr E5)))).tr (Ea.tr Eb))
  · have hv : v = 1 := by rw [hv, if_neg h1]
    subst hv
    refine ev_W.fn rfl rfl ?_
    refine ev_W.fn rfl rfl ?_
    refine ev_W.clI rfl rfl rfl rfl rfl ?_
    refine sp_P_new R1 na1 (fun G6 u6 R6 E6 hp6 => ?_)
    have hp := E6.pk R1 hp
    refine ev_W.clR rfl rfl rfl rfl rfl R6.o5 ?_
    refine sp_B_send R6 hc (by omega) hp6 (fun G7 u7 R7 E7 => ?_)
    have hp := E7.pk R6 hp
    have hp6 := E7.pk R6 hp6
    refine ev_W.fn rfl rfl ?_
    refine ev_W.fn rfl rfl ?_
    refine ev_W.w10 R7 hc (Or.inr rfl) rfl (fun u8 R8 E8 => ?_)
    have hp := E8.pk R7 hp
    have hp6 := E8.pk R7 hp6
    refine ev_W.fn rfl rfl ?_
    refine ev_W.fn rfl rfl ?_
    refine ev_W.obj rfl hp.1 rfl ?_
    refine ev_W.w11 R8 hc rfl (fun u9 R9 E9 => ?_)
    have hp := E9.pk R8 hp
    have hp6 := E9.pk R8 hp6
    refine ev_W.fn rfl rfl ?_
    refine ev_W.fn rfl rfl ?_
    have e0 : sP s (3 + c) = sP (tI (tI (M_send s c (mkp 2 0 1)) 10 c 1) 11 c va) (3 + c) := by
      show _ = sP (M_send s c (mkp 2 0 1)) (3 + c)
      rw [sP_send]
    obtain ⟨g1, g2, g3, g4, g5, g6, g7, g8⟩ := M_agF_ok (sP s (3 + c)) (tI (tI (M_send s c (mkp 2 0 1)) 10 c 1) 11 c va) c
    have e1 : (sN (tI (tI (M_send s c (mkp 2 0 1)) 10 c 1) 11 c va) (2 * c + 1)).length ≤ 17 := by
      show (sN (M_send s c (mkp 2 0 1)) (2 * c + 1)).length ≤ 17
      omega
    refine sp_ag_loop hc (sP s (3 + c)) [] _ _ _ (tI (tI (M_send s c (mkp 2 0 1)) 10 c 1) 11 c va) _ R9 e0.symm (by omega) (fun Ga ua y4 Ra Ea => ?_)
    refine ev_W.fn rfl rfl ?_
    refine ev_W.fn rfl rfl ?_
    refine ev_W.clR rfl rfl rfl rfl rfl Ra.o5 ?_
    refine sp_B_pump Ra hc ?_ (by rw [g4, ← e0]; omega) (fun Gb ub Rb Eb => ?_)
    · rw [g1]
      show sI (M_send s c (mkp 2 0 1)) 6 c ≤ 3
      rw [sI_send]; exact hw
    refine ev_W.ret rfl rfl ?_
    exact k _ _ (Rb.up (by omega) (by omega)) ((E1.tr (E6.tr (E7.tr (E8.tr E9)))).tr (Ea.tr Eb))
theorem sp_B_rc {n1 n2 : Nat} {G : hb_G} {s : hb_S} {h : ev_H} {pa : Nat} {id va : Int32} {tx : Int64} {ty qu : Int32} {ag mr : Bool} {wi ke wv : Int32} (R : hb_R z sz dyn mu G n1 n2 s h) (hc : c < 3) (hp : pk_at dyn G h pa (ty, id, va, tx, qu, ag, mr, wi, ke, wv)) (hw : wi ≤ 3) (hd : (sN s (2 * c + 1)).length ≤ 16) (hu : (sP s (3 + c)).length ≤ 3) (k : ∀ (G' : hb_G) (h' : ev_H), hb_R z sz dyn mu G' (n1 + 20) (n2 + 479) (M_rc s c (ty, id, va, tx, qu, ag, mr, wi, ke, wv)) h' → hb_E dyn G h G' h' → Q (none, h')) : ev_M (mf_B_receiveConnect z) [.ref (sz + 24), .int (nI c), .ref pa] h Q := by
  unfold M_rc M_rc0 at k
  dsimp only at k
  refine ev_M.go rfl rfl ?_
  refine ev_W.fn rfl rfl ?_
  refine ev_W.obj rfl R.o5 rfl ?_
  refine ev_W.fn rfl rfl ?_
  refine ev_W.nk R hc rfl ?_
  refine ev_W.fn rfl rfl ?_
  refine ev_W.clR rfl rfl rfl rfl rfl (R.o6 hc) ?_
  refine sp_N_begin R hc hp (fun G1 u1 R1 E1 => ?_)
  have hp := E1.pk R hp
  refine ev_W.fn rfl rfl ?_
  refine ev_W.obj rfl R1.o5 rfl ?_
  refine ev_W.fn rfl rfl ?_
  refine ev_W.lk R1 hc rfl ?_
  refine ev_W.fn rfl rfl ?_
  refine ev_W.w1 R1 hc (Or.inr rfl) rfl (fun u2 R2 E2 => ?_)
  have hp := E2.pk R1 hp
  refine ev_W.fn rfl rfl ?_
  refine ev_W.obj rfl R2.o5 rfl ?_
  refine ev_W.fn rfl rfl ?_
  refine ev_W.sk R2 hc rfl ?_
  refine ev_W.fn rfl rfl ?_
  refine ev_W.fn rfl rfl ?_
  refine ev_W.obj rfl hp.1 rfl ?_
  refine ev_W.br rfl rfl (fun h1 => ?_) (fun h1 => ?_)
  · have h1 : mr = false := zb_n0.mp h1
    subst h1
    refine sp_rc_mid R2 hc hp (by simp [M_begin, st_a]; exact hw) hd hu (fun G' h' R' E' => k _ _ R' ((E1.tr E2).tr E'))
  · have h1 : mr = true := zb_1.mp h1
    subst h1
    refine ev_W.fn rfl rfl ?_
    refine ev_W.clR rfl rfl rfl rfl rfl (R2.o7 hc) ?_
    refine sp_S_end R2 hc (fun G3 u3 R3 E3 => ?_)
    have hp := E3.pk R2 hp
    obtain ⟨e1, e2, e3, e4, e5, e6, e7⟩ := M_end_at (tI (M_begin s c (ty, id, va, tx, qu, ag, true, wi, ke, wv)) 1 c 1) c
    refine sp_rc_mid R3 hc hp (by rw [e5]; simp [M_begin, st_a]; exact hw) (by rw [e4]; exact hd) (by rw [e3]; simp) (fun G' h' R' E' => k _ _ R' ((E1.tr (E2.tr E3)).tr E'))
end RC
