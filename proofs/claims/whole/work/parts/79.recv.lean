/-! The broker's receive; the client's methods (laid by wip/whole/p79.py). -/
def M_recv (s : hb_S) (c : Nat) (p : hb_Pk) : hb_S := match p with
  | (ty, id, va, tx, qu, ag, mr, wi, ke, wv) => if ty = 1 then M_rc (if sI s 5 c = 0 then tI s 7 c 0 else M_ca (tI s 7 c 0) c) c (ty, id, va, tx, qu, ag, mr, wi, ke, wv) else if ty = 3 then M_rp (tI s 7 c 0) c id va tx qu mr else if ty = 6 then M_send (tI (tI s 7 c 0) 13 c (hrem (sI s 13 c) id)) c (mkp 7 id 0) else if ty = 4 then M_pump (tP (tI s 7 c 0) (3 + c) (pa_fin (sP s (3 + c)) id 1 1)) c else if ty = 5 then M_pump (M_send (tP (tI s 7 c 0) (3 + c) (pa_rel (sP s (3 + c)) id).1) c (mkp 6 id 0)) c else if ty = 7 then M_pump (tP (tI s 7 c 0) (3 + c) (pa_fin (sP s (3 + c)) id 2 2)) c else if ty = 8 then M_rs (tI s 7 c 0) c tx va mr else if ty = 10 then M_ru (tI s 7 c 0) c tx else if ty = 12 then M_send (tI s 7 c 0) c (mkp 13 0 0) else M_cn (tI s 7 c 0) c
theorem M_recv_1 (s : hb_S) (c : Nat) (id va : Int32) (tx : Int64) (qu : Int32) (ag mr : Bool) (wi ke wv : Int32) : M_recv s c (1, id, va, tx, qu, ag, mr, wi, ke, wv) = M_rc (if sI s 5 c = 0 then tI s 7 c 0 else M_ca (tI s 7 c 0) c) c (1, id, va, tx, qu, ag, mr, wi, ke, wv) := rfl
theorem M_recv_3 (s : hb_S) (c : Nat) (id va : Int32) (tx : Int64) (qu : Int32) (ag mr : Bool) (wi ke wv : Int32) : M_recv s c (3, id, va, tx, qu, ag, mr, wi, ke, wv) = M_rp (tI s 7 c 0) c id va tx qu mr := rfl
theorem M_recv_6 (s : hb_S) (c : Nat) (id va : Int32) (tx : Int64) (qu : Int32) (ag mr : Bool) (wi ke wv : Int32) : M_recv s c (6, id, va, tx, qu, ag, mr, wi, ke, wv) = M_send (tI (tI s 7 c 0) 13 c (hrem (sI s 13 c) id)) c (mkp 7 id 0) := rfl
theorem M_recv_4 (s : hb_S) (c : Nat) (id va : Int32) (tx : Int64) (qu : Int32) (ag mr : Bool) (wi ke wv : Int32) : M_recv s c (4, id, va, tx, qu, ag, mr, wi, ke, wv) = M_pump (tP (tI s 7 c 0) (3 + c) (pa_fin (sP s (3 + c)) id 1 1)) c := rfl
theorem M_recv_5 (s : hb_S) (c : Nat) (id va : Int32) (tx : Int64) (qu : Int32) (ag mr : Bool) (wi ke wv : Int32) : M_recv s c (5, id, va, tx, qu, ag, mr, wi, ke, wv) = M_pump (M_send (tP (tI s 7 c 0) (3 + c) (pa_rel (sP s (3 + c)) id).1) c (mkp 6 id 0)) c := rfl
theorem M_recv_7 (s : hb_S) (c : Nat) (id va : Int32) (tx : Int64) (qu : Int32) (ag mr : Bool) (wi ke wv : Int32) : M_recv s c (7, id, va, tx, qu, ag, mr, wi, ke, wv) = M_pump (tP (tI s 7 c 0) (3 + c) (pa_fin (sP s (3 + c)) id 2 2)) c := rfl
theorem M_recv_8 (s : hb_S) (c : Nat) (id va : Int32) (tx : Int64) (qu : Int32) (ag mr : Bool) (wi ke wv : Int32) : M_recv s c (8, id, va, tx, qu, ag, mr, wi, ke, wv) = M_rs (tI s 7 c 0) c tx va mr := rfl
theorem M_recv_10 (s : hb_S) (c : Nat) (id va : Int32) (tx : Int64) (qu : Int32) (ag mr : Bool) (wi ke wv : Int32) : M_recv s c (10, id, va, tx, qu, ag, mr, wi, ke, wv) = M_ru (tI s 7 c 0) c tx := rfl
theorem M_recv_12 (s : hb_S) (c : Nat) (id va : Int32) (tx : Int64) (qu : Int32) (ag mr : Bool) (wi ke wv : Int32) : M_recv s c (12, id, va, tx, qu, ag, mr, wi, ke, wv) = M_send (tI s 7 c 0) c (mkp 13 0 0) := rfl
theorem M_recv_14 (s : hb_S) (c : Nat) (id va : Int32) (tx : Int64) (qu : Int32) (ag mr : Bool) (wi ke wv : Int32) : M_recv s c (14, id, va, tx, qu, ag, mr, wi, ke, wv) = M_cn (tI s 7 c 0) c := rfl
theorem pa_fin_len (ps : List hb_Pa) (id q st : Int32) : (pa_fin ps id q st).length ≤ ps.length := List.length_filter_le _ _
theorem pa_rel_len : ∀ (ps : List hb_Pa) (id : Int32), (pa_rel ps id).1.length = ps.length := by
  intro ps
  induction ps with
  | nil => intro id; rfl
  | cons x r ih =>
    intro id
    rw [pa_rel]
    split
    · rfl
    · simp [ih id]
section RV
variable {z : Nat × Nat} {sz dyn : Nat} {mu : Nat → Option ev_E} {c : Nat} {Q : ev_O → Prop}
set_option maxHeartbeats 800000 in
theorem sp_B_receive {n1 n2 : Nat} {G : hb_G} {s : hb_S} {h : ev_H} {pa : Nat} {ty id va : Int32} {tx : Int64} {qu : Int32} {ag mr : Bool} {wi ke wv : Int32} (R : hb_R z sz dyn mu G n1 n2 s h) (hc : c < 3) (hp : pk_at dyn G h pa (ty, id, va, tx, qu, ag, mr, wi, ke, wv)) (hty : ty = 1 ∨ ty = 3 ∨ ty = 6 ∨ ty = 4 ∨ ty = 5 ∨ ty = 7 ∨ ty = 8 ∨ ty = 10 ∨ ty = 12 ∨ ty = 14) (hw : ty = 1 → wi ≤ 3) (hb : ∀ j, j < 3 → ba 13 s j ∧ iA s j) (hd : (sN s (2 * c + 1)).length ≤ 11) (k : ∀ (G' : hb_G) (h' : ev_H), hb_R z sz dyn mu G' (n1 + 136) (n2 + 2532) (M_recv s c (ty, id, va, tx, qu, ag, mr, wi, ke, wv)) h' → hb_E dyn G h G' h' → Q (none, h')) : ev_M (mf_B_receive z) [.ref (sz + 24), .int (nI c), .ref pa] h Q := by
  have hbc := (hb c hc).1
  have hb7 : ∀ j, j < 3 → ba 13 (tI s 7 c 0) j ∧ iA (tI s 7 c 0) j := fun j hj => hb j hj
  have hcu := hbc.2.2.2.2
  rcases hty with rfl | rfl | rfl | rfl | rfl | rfl | rfl | rfl | rfl | rfl
  · refine ev_M.go rfl rfl ?_
    refine ev_W.fn rfl rfl ?_
    refine ev_W.obj rfl R.o5 rfl ?_
    refine ev_W.fn rfl rfl ?_
    refine ev_W.nk R hc rfl ?_
    refine ev_W.fn rfl rfl ?_
    refine ev_W.w7 R hc rfl (fun u1 R1 E1 => ?_)
    have hp := E1.pk R hp
    refine ev_W.fn rfl rfl ?_
    refine ev_W.obj rfl hp.1 rfl ?_
    refine ev_W.fn rfl rfl ?_
    refine ev_W.fn rfl rfl ?_
    refine ev_W.obj rfl R1.o5 rfl ?_
    refine ev_W.fn rfl rfl ?_
    refine ev_W.nk R1 hc rfl ?_
    refine ev_W.obj rfl (R1.o6 hc) rfl ?_
    refine ev_W.br rfl rfl (fun h1 => ?_) (fun h1 => ?_)
    · have h1 : sI s 5 c = 0 := h1
      refine ev_W.fn rfl rfl ?_
      refine ev_W.fn rfl rfl ?_
      refine ev_W.fn rfl rfl ?_
      refine ev_W.clR rfl rfl rfl rfl rfl R1.o5 ?_
      refine sp_B_rc R1 hc hp (hw rfl) (show (sN s (2 * c + 1)).length ≤ 16 by omega) hcu (fun G2 u2 R2 E2 => ?_)
      have hp := E2.pk R1 hp
      refine ev_W.fn rfl rfl ?_
      refine ev_W.ret rfl rfl ?_
      exact k _ _ (by rw [M_recv_1, if_pos h1]; exact R2.up (by omega) (by omega)) (E1.tr E2)
    · have h1 : ¬ sI s 5 c = 0 := h1
      have hca := (M_ca_all (by decide) (by decide) hc hb7 c hc).1
      refine ev_W.fn rfl rfl ?_
      refine ev_W.fn rfl rfl ?_
      refine ev_W.clR rfl rfl rfl rfl rfl R1.o5 ?_
      refine sp_B_closeAbruptly R1 hc (fun j hj => ⟨(hb7 j hj).1.mono (by decide), (hb7 j hj).2⟩) (fun G3 u3 R3 E3 => ?_)
      have hp := E3.pk R1 hp
      refine ev_W.fn rfl rfl ?_
      refine ev_W.fn rfl rfl ?_
      refine ev_W.fn rfl rfl ?_
      refine ev_W.clR rfl rfl rfl rfl rfl R3.o5 ?_
      refine sp_B_rc R3 hc hp (hw rfl) (by have := hca.2.2.1; have := hca.2.2.2.2; omega) hca.2.2.2.2 (fun G4 u4 R4 E4 => ?_)
      have hp := E4.pk R3 hp
      refine ev_W.fn rfl rfl ?_
      refine ev_W.ret rfl rfl ?_
      exact k _ _ (by rw [M_recv_1, if_neg h1]; exact R4.up (by omega) (by omega)) (E1.tr (E3.tr E4))
  · refine ev_M.go rfl rfl ?_
    refine ev_W.fn rfl rfl ?_
    refine ev_W.obj rfl R.o5 rfl ?_
    refine ev_W.fn rfl rfl ?_
    refine ev_W.nk R hc rfl ?_
    refine ev_W.fn rfl rfl ?_
    refine ev_W.w7 R hc rfl (fun u1 R1 E1 => ?_)
    have hp := E1.pk R hp
    refine ev_W.fn rfl rfl ?_
    refine ev_W.obj rfl hp.1 rfl ?_
    refine ev_W.fn rfl rfl ?_
    refine ev_W.fn rfl rfl ?_
    refine ev_W.fn rfl rfl ?_
    refine ev_W.fn rfl rfl ?_
    refine ev_W.clR rfl rfl rfl rfl rfl R1.o5 ?_
    refine sp_B_rp R1 hc hp (fun j hj => (hb7 j hj).1.mono (by decide)) (fun G2 u2 R2 E2 => ?_)
    have hp := E2.pk R1 hp
    refine ev_W.fn rfl rfl ?_
    refine ev_W.ret rfl rfl ?_
    exact k _ _ (by rw [M_recv_3]; exact R2.up (by omega) (by omega)) (E1.tr E2)
  · refine ev_M.go rfl rfl ?_
    refine ev_W.fn rfl rfl ?_
    refine ev_W.obj rfl R.o5 rfl ?_
    refine ev_W.fn rfl rfl ?_
    refine ev_W.nk R hc rfl ?_
    refine ev_W.fn rfl rfl ?_
    refine ev_W.w7 R hc rfl (fun u1 R1 E1 => ?_)
    have hp := E1.pk R hp
    refine ev_W.fn rfl rfl ?_
    refine ev_W.obj rfl hp.1 rfl ?_
    refine ev_W.fn rfl rfl ?_
    refine ev_W.fn rfl rfl ?_
    refine ev_W.obj rfl R1.o5 rfl ?_
    refine ev_W.fn rfl rfl ?_
    refine ev_W.sk R1 hc rfl ?_
    refine ev_W.obj rfl (R1.o7 hc) rfl ?_
    refine ev_W.fn rfl rfl ?_
    refine ev_W.obj rfl hp.1 rfl ?_
    refine ev_W.clR rfl rfl rfl rfl rfl (R1.o4s hc) ?_
    refine sp_hs_rem R1 hc (fun u2 R2 E2 => ?_)
    have hp := E2.pk R1 hp
    refine ev_W.fn rfl rfl ?_
    refine ev_W.fn rfl rfl ?_
    refine ev_W.nw R2 rfl (fun G3 u3 a3 R3 E3 na3 => ?_)
    have hp := E3.pk R2 hp
    refine ev_W.fn rfl rfl ?_
    refine ev_W.fn rfl rfl ?_
    refine ev_W.fn rfl rfl ?_
    refine ev_W.obj rfl hp.1 rfl ?_
    refine ev_W.fn rfl rfl ?_
    refine ev_W.clI rfl rfl rfl rfl rfl ?_
    refine sp_P_new R3 na3 (fun G4 u4 R4 E4 hp4 => ?_)
    have hp := E4.pk R3 hp
    refine ev_W.clR rfl rfl rfl rfl rfl R4.o5 ?_
    refine sp_B_send R4 hc (show (sN s (2 * c + 1)).length ≤ 20 by omega) hp4 (fun G5 u5 R5 E5 => ?_)
    have hp := E5.pk R4 hp
    have hp4 := E5.pk R4 hp4
    refine ev_W.fn rfl rfl ?_
    refine ev_W.ret rfl rfl ?_
    exact k _ _ (by rw [M_recv_6]; exact R5.up (by omega) (by omega)) (E1.tr (E2.tr (E3.tr (E4.tr E5))))
  · refine ev_M.go rfl rfl ?_
    refine ev_W.fn rfl rfl ?_
    refine ev_W.obj rfl R.o5 rfl ?_
    refine ev_W.fn rfl rfl ?_
    refine ev_W.nk R hc rfl ?_
    refine ev_W.fn rfl rfl ?_
    refine ev_W.w7 R hc rfl (fun u1 R1 E1 => ?_)
    have hp := E1.pk R hp
    refine ev_W.fn rfl rfl ?_
    refine ev_W.obj rfl hp.1 rfl ?_
    refine ev_W.fn rfl rfl ?_
    refine ev_W.fn rfl rfl ?_
    refine ev_W.obj rfl R1.o5 rfl ?_
    refine ev_W.fn rfl rfl ?_
    refine ev_W.sk R1 hc rfl ?_
    refine ev_W.obj rfl (R1.o7 hc) rfl ?_
    refine ev_W.fn rfl rfl ?_
    refine ev_W.obj rfl hp.1 rfl ?_
    refine ev_W.fn rfl rfl ?_
    refine ev_W.fn rfl rfl ?_
    refine ev_W.cl rfl rfl rfl rfl rfl ?_
    refine sp_R_finish R1 (by omega) (fun G2 u2 R2 E2 => ?_)
    have hp := E2.pk R1 hp
    refine ev_W.fn rfl rfl ?_
    refine ev_W.fn rfl rfl ?_
    refine ev_W.clR rfl rfl rfl rfl rfl R2.o5 ?_
    refine sp_B_pump R2 hc (show sI s 6 c ≤ 3 from hbc.2.2.2.1) (show (sN s (2 * c + 1)).length ≤ _ by omega) (fun G3 u3 R3 E3 => ?_)
    have hp := E3.pk R2 hp
    refine ev_W.fn rfl rfl ?_
    refine ev_W.ret rfl rfl ?_
    exact k _ _ (by rw [M_recv_4]; exact R3.up (by omega) (by omega)) (E1.tr (E2.tr E3))
  · refine ev_M.go rfl rfl ?_
    refine ev_W.fn rfl rfl ?_
    refine ev_W.obj rfl R.o5 rfl ?_
    refine ev_W.fn rfl rfl ?_
    refine ev_W.nk R hc rfl ?_
    refine ev_W.fn rfl rfl ?_
    refine ev_W.w7 R hc rfl (fun u1 R1 E1 => ?_)
    have hp := E1.pk R hp
    refine ev_W.fn rfl rfl ?_
    refine ev_W.obj rfl hp.1 rfl ?_
    refine ev_W.fn rfl rfl ?_
    refine ev_W.fn rfl rfl ?_
    refine ev_W.obj rfl R1.o5 rfl ?_
    refine ev_W.fn rfl rfl ?_
    refine ev_W.sk R1 hc rfl ?_
    refine ev_W.obj rfl (R1.o7 hc) rfl ?_
    refine ev_W.fn rfl rfl ?_
    refine ev_W.obj rfl hp.1 rfl ?_
    refine ev_W.cl rfl rfl rfl rfl rfl ?_
    refine sp_R_release R1 (by omega) (fun u2 R2 E2 => ?_)
    have hp := E2.pk R1 hp
    refine ev_W.fn rfl rfl ?_
    refine ev_W.fn rfl rfl ?_
    refine ev_W.fn rfl rfl ?_
    refine ev_W.nw R2 rfl (fun G3 u3 a3 R3 E3 na3 => ?_)
    have hp := E3.pk R2 hp
    refine ev_W.fn rfl rfl ?_
    refine ev_W.fn rfl rfl ?_
    refine ev_W.fn rfl rfl ?_
    refine ev_W.obj rfl hp.1 rfl ?_
    refine ev_W.fn rfl rfl ?_
    refine ev_W.clI rfl rfl rfl rfl rfl ?_
    refine sp_P_new R3 na3 (fun G4 u4 R4 E4 hp4 => ?_)
    have hp := E4.pk R3 hp
    refine ev_W.clR rfl rfl rfl rfl rfl R4.o5 ?_
    refine sp_B_send R4 hc (show (sN s (2 * c + 1)).length ≤ 20 by omega) hp4 (fun G5 u5 R5 E5 => ?_)
    have hp := E5.pk R4 hp
    have hp4 := E5.pk R4 hp4
    refine ev_W.fn rfl rfl ?_
    refine ev_W.fn rfl rfl ?_
    refine ev_W.clR rfl rfl rfl rfl rfl R5.o5 ?_
    refine sp_B_pump R5 hc (by rw [sI_send]; exact hbc.2.2.2.1) (by have := sN_send_len (tP (tI s 7 c 0) (3 + c) (pa_rel (sP s (3 + c)) id).1) c (mkp 6 id 0); have e : sN (tP (tI s 7 c 0) (3 + c) (pa_rel (sP s (3 + c)) id).1) = sN s := rfl; rw [e] at this; exact Nat.le_trans this (by omega)) (fun G6 u6 R6 E6 => ?_)
    have hp := E6.pk R5 hp
    have hp4 := E6.pk R5 hp4
    refine ev_W.fn rfl rfl ?_
    refine ev_W.ret rfl rfl ?_
    exact k _ _ (by rw [M_recv_5]; exact R6.up (by omega) (by omega)) (E1.tr (E2.tr (E3.tr (E4.tr (E5.tr E6)))))
  · refine ev_M.go rfl rfl ?_
    refine ev_W.fn rfl rfl ?_
    refine ev_W.obj rfl R.o5 rfl ?_
    refine ev_W.fn rfl rfl ?_
    refine ev_W.nk R hc rfl ?_
    refine ev_W.fn rfl rfl ?_
    refine ev_W.w7 R hc rfl (fun u1 R1 E1 => ?_)
    have hp := E1.pk R hp
    refine ev_W.fn rfl rfl ?_
    refine ev_W.obj rfl hp.1 rfl ?_
    refine ev_W.fn rfl rfl ?_
    refine ev_W.fn rfl rfl ?_
    refine ev_W.obj rfl R1.o5 rfl ?_
    refine ev_W.fn rfl rfl ?_
    refine ev_W.sk R1 hc rfl ?_
    refine ev_W.obj rfl (R1.o7 hc) rfl ?_
    refine ev_W.fn rfl rfl ?_
    refine ev_W.obj rfl hp.1 rfl ?_
    refine ev_W.fn rfl rfl ?_
    refine ev_W.fn rfl rfl ?_
    refine ev_W.cl rfl rfl rfl rfl rfl ?_
    refine sp_R_finish R1 (by omega) (fun G2 u2 R2 E2 => ?_)
    have hp := E2.pk R1 hp
    refine ev_W.fn rfl rfl ?_
    refine ev_W.fn rfl rfl ?_
    refine ev_W.clR rfl rfl rfl rfl rfl R2.o5 ?_
    refine sp_B_pump R2 hc (show sI s 6 c ≤ 3 from hbc.2.2.2.1) (show (sN s (2 * c + 1)).length ≤ _ by omega) (fun G3 u3 R3 E3 => ?_)
    have hp := E3.pk R2 hp
    refine ev_W.fn rfl rfl ?_
    refine ev_W.ret rfl rfl ?_
    exact k _ _ (by rw [M_recv_7]; exact R3.up (by omega) (by omega)) (E1.tr (E2.tr E3))
  · refine ev_M.go rfl rfl ?_
    refine ev_W.fn rfl rfl ?_
    refine ev_W.obj rfl R.o5 rfl ?_
    refine ev_W.fn rfl rfl ?_
    refine ev_W.nk R hc rfl ?_
    refine ev_W.fn rfl rfl ?_
    refine ev_W.w7 R hc rfl (fun u1 R1 E1 => ?_)
    have hp := E1.pk R hp
    refine ev_W.fn rfl rfl ?_
    refine ev_W.obj rfl hp.1 rfl ?_
    refine ev_W.fn rfl rfl ?_
    refine ev_W.fn rfl rfl ?_
    refine ev_W.fn rfl rfl ?_
    refine ev_W.fn rfl rfl ?_
    refine ev_W.clR rfl rfl rfl rfl rfl R1.o5 ?_
    refine sp_B_rs R1 hc hp (show sI s 6 c ≤ 3 from hbc.2.2.2.1) (show (sN s (2 * c + 1)).length ≤ 16 + (sP s (3 + c)).length by omega) (show (sN s (2 * c + 1)).length ≤ 20 by omega) (fun G2 u2 R2 E2 => ?_)
    have hp := E2.pk R1 hp
    refine ev_W.fn rfl rfl ?_
    refine ev_W.ret rfl rfl ?_
    exact k _ _ (by rw [M_recv_8]; exact R2.up (by omega) (by omega)) (E1.tr E2)
  · refine ev_M.go rfl rfl ?_
    refine ev_W.fn rfl rfl ?_
    refine ev_W.obj rfl R.o5 rfl ?_
    refine ev_W.fn rfl rfl ?_
    refine ev_W.nk R hc rfl ?_
    refine ev_W.fn rfl rfl ?_
    refine ev_W.w7 R hc rfl (fun u1 R1 E1 => ?_)
    have hp := E1.pk R hp
    refine ev_W.fn rfl rfl ?_
    refine ev_W.obj rfl hp.1 rfl ?_
    refine ev_W.fn rfl rfl ?_
    refine ev_W.fn rfl rfl ?_
    refine ev_W.fn rfl rfl ?_
    refine ev_W.fn rfl rfl ?_
    refine ev_W.clR rfl rfl rfl rfl rfl R1.o5 ?_
    refine sp_B_ru R1 hc hp (show (sN s (2 * c + 1)).length ≤ 20 by omega) (fun G2 u2 R2 E2 => ?_)
    have hp := E2.pk R1 hp
    refine ev_W.fn rfl rfl ?_
    refine ev_W.ret rfl rfl ?_
    exact k _ _ (by rw [M_recv_10]; exact R2.up (by omega) (by omega)) (E1.tr E2)
  · refine ev_M.go rfl rfl ?_
    refine ev_W.fn rfl rfl ?_
    refine ev_W.obj rfl R.o5 rfl ?_
    refine ev_W.fn rfl rfl ?_
    refine ev_W.nk R hc rfl ?_
    refine ev_W.fn rfl rfl ?_
    refine ev_W.w7 R hc rfl (fun u1 R1 E1 => ?_)
    have hp := E1.pk R hp
    refine ev_W.fn rfl rfl ?_
    refine ev_W.obj rfl hp.1 rfl ?_
    refine ev_W.fn rfl rfl ?_
    refine ev_W.fn rfl rfl ?_
    refine ev_W.fn rfl rfl ?_
    refine ev_W.nw R1 rfl (fun G2 u2 a2 R2 E2 na2 => ?_)
    have hp := E2.pk R1 hp
    refine ev_W.fn rfl rfl ?_
    refine ev_W.fn rfl rfl ?_
    refine ev_W.fn rfl rfl ?_
    refine ev_W.fn rfl rfl ?_
    refine ev_W.clI rfl rfl rfl rfl rfl ?_
    refine sp_P_new R2 na2 (fun G3 u3 R3 E3 hp3 => ?_)
    have hp := E3.pk R2 hp
    refine ev_W.clR rfl rfl rfl rfl rfl R3.o5 ?_
    refine sp_B_send R3 hc (show (sN s (2 * c + 1)).length ≤ 20 by omega) hp3 (fun G4 u4 R4 E4 => ?_)
    have hp := E4.pk R3 hp
    have hp3 := E4.pk R3 hp3
    refine ev_W.fn rfl rfl ?_
    refine ev_W.ret rfl rfl ?_
    exact k _ _ (by rw [M_recv_12]; exact R4.up (by omega) (by omega)) (E1.tr (E2.tr (E3.tr E4)))
  · refine ev_M.go rfl rfl ?_
    refine ev_W.fn rfl rfl ?_
    refine ev_W.obj rfl R.o5 rfl ?_
    refine ev_W.fn rfl rfl ?_
    refine ev_W.nk R hc rfl ?_
    refine ev_W.fn rfl rfl ?_
    refine ev_W.w7 R hc rfl (fun u1 R1 E1 => ?_)
    have hp := E1.pk R hp
    refine ev_W.fn rfl rfl ?_
    refine ev_W.obj rfl hp.1 rfl ?_
    refine ev_W.fn rfl rfl ?_
    refine ev_W.fn rfl rfl ?_
    refine ev_W.fn rfl rfl ?_
    refine ev_W.clR rfl rfl rfl rfl rfl R1.o5 ?_
    refine sp_B_closeNormally R1 hc (fun G2 u2 R2 E2 => ?_)
    have hp := E2.pk R1 hp
    refine ev_W.fn rfl rfl ?_
    refine ev_W.ret rfl rfl ?_
    exact k _ _ (by rw [M_recv_14]; exact R2.up (by omega) (by omega)) (E1.tr E2)
theorem sp_C_setWill {n1 n2 : Nat} {G : hb_G} {s : hb_S} {h : ev_H} {t : Int64} {v : Int32} (R : hb_R z sz dyn mu G n1 n2 s h) (hc : c < 3) (k : ∀ (G' : hb_G) (h' : ev_H), hb_R z sz dyn mu G' n1 n2 (tI (tJ s 0 c t) 3 c v) h' → hb_E dyn G h G' h' → Q (none, h')) : ev_M (mf_C_setWill z) [.ref (sz + (6 + 7 * c)), .long t, .int v] h Q := by
  refine ev_M.go rfl rfl ?_
  refine ev_W.fn rfl rfl ?_
  refine ev_W.fn rfl rfl ?_
  refine ev_W.wj0 R hc rfl (fun u1 R1 E1 => ?_)
  refine ev_W.fn rfl rfl ?_
  refine ev_W.fn rfl rfl ?_
  refine ev_W.w3 R1 hc rfl (fun u2 R2 E2 => ?_)
  refine ev_W.ret rfl rfl ?_
  exact k _ _ R2 (E1.tr E2)
def M_up (s : hb_S) (c : Nat) (p : hb_Pk) : hb_S := tN s (2 * c) (sN s (2 * c) ++ [p])
def M_open (s : hb_S) (c : Nat) (cl : Bool) (ex wi ke : Int32) : hb_S := M_up (tI s 0 c 1) c (1, 0, ex, sJ s 0 c, 0, false, cl, wi, ke, sI s 3 c)
theorem sp_C_openLink {n1 n2 : Nat} {G : hb_G} {s : hb_S} {h : ev_H} {cl : Bool} {ex wi ke : Int32} (R : hb_R z sz dyn mu G n1 n2 s h) (hc : c < 3) (hu : (sN s (2 * c)).length ≤ 20) (k : ∀ (G' : hb_G) (h' : ev_H), hb_R z sz dyn mu G' (n1 + 2) (n2 + 50) (M_open s c cl ex wi ke) h' → hb_E dyn G h G' h' → Q (none, h')) : ev_M (mf_C_openLink z) [.ref (sz + (6 + 7 * c)), .int (zb cl), .int ex, .int wi, .int ke] h Q := by
  refine ev_M.go rfl rfl ?_
  refine ev_W.fn rfl rfl ?_
  refine ev_W.obj rfl (R.o3 hc) rfl ?_
  refine ev_W.fn rfl rfl ?_
  refine ev_W.w0 R hc rfl (fun u1 R1 E1 => ?_)
  refine ev_W.fn rfl rfl ?_
  refine ev_W.obj rfl (R1.o3 hc) rfl ?_
  refine ev_W.obj rfl (R1.o1 hc) rfl ?_
  refine ev_W.fn rfl rfl ?_
  refine ev_W.fn rfl rfl ?_
  refine ev_W.fn rfl rfl ?_
  refine ev_W.fn rfl rfl ?_
  refine ev_W.fn rfl rfl ?_
  refine ev_W.obj rfl (R1.o3 hc) rfl ?_
  refine ev_W.fn rfl rfl ?_
  refine ev_W.obj rfl (R1.o3 hc) rfl ?_
  refine ev_W.cl rfl rfl rfl rfl rfl ?_
  refine sp_P_ofC R1 (fun G2 u2 a2 R2 E2 hp2 => ?_)
  refine ev_W.clR rfl rfl rfl rfl rfl (R2.lo (nl_lt (by omega))) ?_
  refine R2.nadd (by omega) hu hp2 (fun G3 u3 R3 E3 => ?_)
  have hp2 := E3.pk R2 hp2
  refine ev_W.fn rfl rfl ?_
  refine ev_W.ret rfl rfl ?_
  exact k _ _ R3 (E1.tr (E2.tr E3))
def M_in (s : hb_S) (c : Nat) (k : Int32) : Int32 := if k = -1 then sI s 2 c else if (0 ≤ k ∧ k ≤ 99) ∧ k < sI s 2 c then sX s c k.toNatClampNeg else 0
theorem sp_C_received {n1 n2 : Nat} {G : hb_G} {s : hb_S} {h : ev_H} {i : Int32} (R : hb_R z sz dyn mu G n1 n2 s h) (hc : c < 3) (k : Q (some (.int (M_in s c i)), h)) : ev_M (mf_C_received z) [.ref (sz + (6 + 7 * c)), .int i] h Q := by
  unfold M_in at k
  refine ev_M.go rfl rfl ?_
  refine ev_W.fn rfl rfl ?_
  refine ev_W.fn rfl rfl ?_
  refine ev_W.br rfl rfl (fun h1 => ?_) (fun h1 => ?_)
  · rw [if_neg h1] at k
    refine ev_W.fn rfl rfl ?_
    refine ev_W.fn rfl rfl ?_
    refine ev_W.fn rfl rfl ?_
    refine ev_W.cl rfl rfl rfl rfl rfl ?_
    refine sp_isWithin ?_
    refine ev_W.br rfl rfl (fun h2 => ?_) (fun h2 => ?_)
    · have h2 := of_decide_eq_false (zb_n0.mp h2)
      rw [if_neg (fun q => h2 q.1)] at k
      refine ev_W.fn rfl rfl ?_
      refine ev_W.ret rfl rfl ?_
      exact k
    · have h2 := of_decide_eq_true (zb_1.mp h2)
      refine ev_W.fn rfl rfl ?_
      refine ev_W.fn rfl rfl ?_
      refine ev_W.obj rfl (R.o3 hc) rfl ?_
      refine ev_W.br rfl rfl (fun h3 => ?_) (fun h3 => ?_)
      · refine ev_W.fn rfl rfl ?_
        refine ev_W.ret rfl rfl ?_
        rw [if_neg (fun q => Int32.not_lt.mpr h3 q.2)] at k
        exact k
      · have h3 := Int32.not_le.mp h3
        rw [if_pos ⟨h2, h3⟩] at k
        obtain ⟨j, hj, hje⟩ := nI_of2 (M := 99) (n := 99) (by decide) (Int32.not_lt.mpr h2.1) h2.2
        subst hje
        rw [nI_clamp (by omega)] at k
        refine ev_W.fn rfl rfl ?_
        refine ev_W.obj rfl (R.o3 hc) rfl ?_
        refine ev_W.fn rfl rfl ?_
        refine ev_W.ialdN rfl (R.ox hc) rfl (by omega) (by decide) ?_
        refine ev_W.fn rfl rfl ?_
        refine ev_W.ret rfl rfl ?_
        exact k
  · rw [if_pos (Decidable.not_not.mp h1)] at k
    refine ev_W.fn rfl rfl ?_
    refine ev_W.obj rfl (R.o3 hc) rfl ?_
    refine ev_W.ret rfl rfl ?_
    exact k
def M_csum (s : hb_S) (c : Nat) : Int32 := nI (sP s c).length + 8 * nI (pa_uw (sP s c)) + 64 * bi_cnt (sI s 4 c)
theorem sp_C_summary {n1 n2 : Nat} {G : hb_G} {s : hb_S} {h : ev_H} (R : hb_R z sz dyn mu G n1 n2 s h) (hc : c < 3) (k : Q (some (.int (M_csum s c)), h)) : ev_M (mf_C_summary z) [.ref (sz + (6 + 7 * c))] h Q := by
  refine ev_M.go rfl rfl ?_
  refine ev_W.fn rfl rfl ?_
  refine ev_W.obj rfl (R.o3 hc) rfl ?_
  refine ev_W.clR rfl rfl rfl rfl rfl (R.lo (hb_pj_lt (by omega))) ?_
  refine R.psize (by omega) ?_
  refine ev_W.fn rfl rfl ?_
  refine ev_W.fn rfl rfl ?_
  refine ev_W.obj rfl (R.o3 hc) rfl ?_
  refine ev_W.cl rfl rfl rfl rfl rfl ?_
  refine sp_R_countUnderWay R (by omega) ?_
  refine ev_W.fn rfl rfl ?_
  refine ev_W.fn rfl rfl ?_
  refine ev_W.fn rfl rfl ?_
  refine ev_W.fn rfl rfl ?_
  refine ev_W.obj rfl (R.o3 hc) rfl ?_
  refine ev_W.clR rfl rfl rfl rfl rfl (R.o4 hc) ?_
  refine sp_I_count (R.o4 hc) ?_
  refine ev_W.fn rfl rfl ?_
  refine ev_W.fn rfl rfl ?_
  refine ev_W.ret rfl rfl ?_
  exact k
end RV
