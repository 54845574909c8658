/-! The reference's lines: close, send, take (laid by wip/whole/p96.py). -/
def zsd (t : rf_S) (l n : Nat) (ty id v : Int32) : rf_S := uL (uI (uI (uI (uI (uI (uI (uI t 0 l (t.1 0 l + 1)) 1 (32 * l + n) ty) 2 (32 * l + n) id) 3 (32 * l + n) v) 4 (32 * l + n) 0) 5 (32 * l + n) 0) 6 (32 * l + n) 0) 7 (32 * l + n) 0
theorem zsd_ag (t : rf_S) (l n : Nat) (ty id v : Int32) : ag (fun f j => (f = 0 ∧ j = l) ∨ (1 ≤ f ∧ f < 12 ∧ j = 32 * l + n)) t (zsd t l n ty id v) := by
  have W : ∀ f, 1 ≤ f → f < 12 → ((f = 0 ∧ 32 * l + n = l) ∨ (1 ≤ f ∧ f < 12 ∧ 32 * l + n = 32 * l + n)) := fun f a b => Or.inr ⟨a, b, rfl⟩
  exact (((((((ag.rf.wI _ (Or.inl ⟨rfl, rfl⟩)).wI _ (W 1 (by decide) (by decide))).wI _ (W 2 (by decide) (by decide))).wI _ (W 3 (by decide) (by decide))).wI _ (W 4 (by decide) (by decide))).wI _ (W 5 (by decide) (by decide))).wI _ (W 6 (by decide) (by decide))).wL _ (W 7 (by decide) (by decide))
theorem zsd_0 (t : rf_S) (l n : Nat) (ty id v : Int32) : (zsd t l n ty id v).1 0 l = t.1 0 l + 1 ∧ (zsd t l n ty id v).1 1 (32 * l + n) = ty ∧ (zsd t l n ty id v).1 2 (32 * l + n) = id ∧ (zsd t l n ty id v).1 3 (32 * l + n) = v ∧ (zsd t l n ty id v).1 4 (32 * l + n) = 0 ∧ (zsd t l n ty id v).1 5 (32 * l + n) = 0 ∧ (zsd t l n ty id v).1 6 (32 * l + n) = 0 ∧ (zsd t l n ty id v).2.1 7 (32 * l + n) = 0 := by
  unfold zsd
  refine ⟨?_, ?_, ?_, ?_, ?_, ?_, ?_, ?_⟩ <;> simp [uI_1, uL_1, uL_0]
section ZL
variable {z : Nat × Nat} {m0 : Nat} {s : hb_S} {p : hb_Pk} {t : rf_S} {h : ev_H} {Q : ev_O → Prop} {c l : Nat}
theorem sp_Z_closeLink (R : zR z m0 s p t h) (hc : c < 3) (k : ∀ t' h', zR z m0 (M_close s c) p t' h' → rf_E m0 h h' → Q (none, h')) : ev_M (mf_Z_closeLink z) [.ref m0, .int (nI c)] h Q := by
  refine ev_M.go rfl rfl ?_
  refine ev_W.fn rfl rfl ?_
  refine ev_W.obj rfl R.ob rfl ?_
  refine ev_W.fn rfl rfl ?_
  refine ev_W.fn rfl rfl ?_
  refine ev_W.p22 R hc rfl rfl (fun t1 u1 R1 E1 => ?_)
  refine ev_W.fn rfl rfl ?_
  refine ev_W.obj rfl R1.ob rfl ?_
  refine ev_W.fn rfl rfl ?_
  refine ev_W.fn rfl rfl ?_
  refine ev_W.p36 R1 hc (Or.inl rfl) rfl rfl (fun t2 u2 R2 E2 => ?_)
  refine ev_W.fn rfl rfl ?_
  refine ev_W.obj rfl R2.ob rfl ?_
  refine ev_W.fn rfl rfl ?_
  refine ev_W.fn rfl rfl ?_
  refine ev_W.fn rfl rfl ?_
  refine ev_W.fn rfl rfl ?_
  refine ev_W.p0z R2 (l := 2 * c) (by omega) (zm 2 c) rfl (fun t3 u3 R3 E3 => ?_)
  refine ev_W.fn rfl rfl ?_
  refine ev_W.obj rfl R3.ob rfl ?_
  refine ev_W.fn rfl rfl ?_
  refine ev_W.fn rfl rfl ?_
  refine ev_W.fn rfl rfl ?_
  refine ev_W.fn rfl rfl ?_
  refine ev_W.fn rfl rfl ?_
  refine ev_W.fn rfl rfl ?_
  refine ev_W.p0z R3 (l := 2 * c + 1) (by omega) (zma1 2 c) rfl (fun t4 u4 R4 E4 => ?_)
  refine ev_W.ret rfl rfl ?_
  exact k _ _ R4 (E1.tr (E2.tr (E3.tr E4)))
theorem sp_Z_send0 {n : Nat} {ty id v : Int32} (P : rf_P z m0 t h) (hl : l < 6) (hn : t.1 0 l = nI n) (h31 : n ≤ 31) (k : ∀ h', rf_P z m0 (zsd t l n ty id v) h' → rf_E m0 h h' → Q (some (.int (nI (32 * l + n))), h')) : ev_M (mf_Z_send z) [.ref m0, .int (nI l), .int ty, .int id, .int v] h Q := by
  have ix : 32 * nI l + t.1 0 l = nI (32 * l + n) := by rw [hn]; exact zma 32 l n
  refine ev_M.go rfl rfl ?_
  refine ev_W.fn rfl rfl ?_
  refine ev_W.fn rfl rfl ?_
  refine ev_W.fn rfl rfl ?_
  refine ev_W.fn rfl rfl ?_
  refine ev_W.obj rfl P.2.2.2.1 rfl ?_
  refine ev_W.fn rfl rfl ?_
  refine ev_W.ri 0 P rfl rfl hl rfl ?_
  refine ev_W.fn rfl rfl ?_
  refine ev_W.fn rfl rfl ?_
  refine ev_W.fn rfl rfl ?_
  refine ev_W.obj rfl P.2.2.2.1 rfl ?_
  refine ev_W.fn rfl rfl ?_
  refine ev_W.fn rfl rfl ?_
  refine ev_W.ri 0 P rfl rfl hl rfl ?_
  refine ev_W.fn rfl rfl ?_
  refine ev_W.fn rfl rfl ?_
  refine ev_W.si 0 P rfl rfl hl rfl (fun u1 R1 E1 => ?_)
  refine ev_W.fn rfl rfl ?_
  refine ev_W.obj rfl R1.2.2.2.1 rfl ?_
  refine ev_W.fn rfl rfl ?_
  refine ev_W.fn rfl rfl ?_
  refine ev_W.si 1 R1 rfl ix (show 32 * l + n < 192 by omega) rfl (fun u2 R2 E2 => ?_)
  refine ev_W.fn rfl rfl ?_
  refine ev_W.obj rfl R2.2.2.2.1 rfl ?_
  refine ev_W.fn rfl rfl ?_
  refine ev_W.fn rfl rfl ?_
  refine ev_W.si 2 R2 rfl ix (show 32 * l + n < 192 by omega) rfl (fun u3 R3 E3 => ?_)
  refine ev_W.fn rfl rfl ?_
  refine ev_W.obj rfl R3.2.2.2.1 rfl ?_
  refine ev_W.fn rfl rfl ?_
  refine ev_W.fn rfl rfl ?_
  refine ev_W.si 3 R3 rfl ix (show 32 * l + n < 192 by omega) rfl (fun u4 R4 E4 => ?_)
  refine ev_W.fn rfl rfl ?_
  refine ev_W.obj rfl R4.2.2.2.1 rfl ?_
  refine ev_W.fn rfl rfl ?_
  refine ev_W.fn rfl rfl ?_
  refine ev_W.si 4 R4 rfl ix (show 32 * l + n < 192 by omega) rfl (fun u5 R5 E5 => ?_)
  refine ev_W.fn rfl rfl ?_
  refine ev_W.obj rfl R5.2.2.2.1 rfl ?_
  refine ev_W.fn rfl rfl ?_
  refine ev_W.fn rfl rfl ?_
  refine ev_W.sz 5 R5 rfl (Or.inl rfl) ix (show 32 * l + n < 192 by omega) rfl (fun u6 R6 E6 => ?_)
  refine ev_W.fn rfl rfl ?_
  refine ev_W.obj rfl R6.2.2.2.1 rfl ?_
  refine ev_W.fn rfl rfl ?_
  refine ev_W.fn rfl rfl ?_
  refine ev_W.sz 6 R6 rfl (Or.inl rfl) ix (show 32 * l + n < 192 by omega) rfl (fun u7 R7 E7 => ?_)
  refine ev_W.fn rfl rfl ?_
  refine ev_W.obj rfl R7.2.2.2.1 rfl ?_
  refine ev_W.fn rfl rfl ?_
  refine ev_W.fn rfl rfl ?_
  refine ev_W.sl 7 R7 rfl ix (show 32 * l + n < 192 by omega) rfl (fun u8 R8 E8 => ?_)
  refine ev_W.fn rfl rfl ?_
  refine ev_W.ret rfl rfl ?_
  have kk := k _ R8 (E1.tr (E2.tr (E3.tr (E4.tr (E5.tr (E6.tr (E7.tr E8)))))))
  rw [← ix] at kk
  exact kk
theorem sp_Z_send {ty id v : Int32} (R : zR z m0 s p t h) (hl : l < 6) (h30 : (sN s l).length ≤ 30) (hty : ¬ ty = 1) (k : ∀ t' h', zR z m0 (tN s l (sN s l ++ [mkp ty id v])) p t' h' → rf_E m0 h h' → Q (some (.int (nI (32 * l + (sN s l).length))), h')) : ev_M (mf_Z_send z) [.ref m0, .int (nI l), .int ty, .int id, .int v] h Q := by
  obtain ⟨z0, z1, z2, z3, z4, z5, z6, z7⟩ := zsd_0 t l (sN s l).length ty id v
  refine sp_Z_send0 R.1 hl (R.2.1.n l hl).1 (by omega) (fun h' P E => k _ h' ⟨P, ?_, R.2.2.1, R.2.2.2.dN l (by simp; omega)⟩ E)
  refine R.2.1.push R.2.2.2 hl h30 (zsd_ag _ _ _ _ _ _) rfl z0 ⟨z1, z2, z3, z4, z5, z6, fun q => absurd q hty, fun _ => ?_⟩
  rw [z7]; show (0 : Int64) = tz_pl 0; decide +kernel
theorem sp_Z_sendPublish {T tx : Int64} {v q id : Int32} (R : zR z m0 s p t h) (hl : l < 6) (h30 : (sN s l).length ≤ 30) (htx : tx = tz_pl T) (k : ∀ t' h', zR z m0 (tN s l (sN s l ++ [(3, id, v, T, q, false, false, 0, 0, 0)])) p t' h' → rf_E m0 h h' → Q (none, h')) : ev_M (mf_Z_sendPublish z) [.ref m0, .int (nI l), .long tx, .int v, .int q, .int id] h Q := by
  refine ev_M.go rfl rfl ?_
  refine ev_W.fn rfl rfl ?_
  refine ev_W.fn rfl rfl ?_
  refine ev_W.fn rfl rfl ?_
  refine ev_W.fn rfl rfl ?_
  refine ev_W.fn rfl rfl ?_
  refine ev_W.clR rfl rfl rfl rfl rfl R.ob ?_
  refine sp_Z_send R hl h30 (by decide) (fun t1 u1 R1 E1 => ?_)
  refine ev_W.fn rfl rfl ?_
  refine ev_W.fn rfl rfl ?_
  refine ev_W.obj rfl R1.ob rfl ?_
  refine ev_W.fn rfl rfl ?_
  refine ev_W.fn rfl rfl ?_
  refine ev_W.p7L R1 (l := l) hl (sN_tN _ _ _) (by show ¬ (3 : Int32) = 1; decide) htx rfl rfl (fun t2 u2 R2 E2 => ?_)
  refine ev_W.fn rfl rfl ?_
  refine ev_W.obj rfl R2.ob rfl ?_
  refine ev_W.fn rfl rfl ?_
  refine ev_W.fn rfl rfl ?_
  refine ev_W.p4L R2 (l := l) hl (sN_tN _ _ _) (by show ¬ (3 : Int32) = 1; decide) rfl rfl (fun t3 u3 R3 E3 => ?_)
  refine ev_W.ret rfl rfl ?_
  rw [tN_tN, tN_tN] at R3
  exact k _ _ R3 (E1.tr (E2.tr E3))
theorem sp_Z_marked {old : List hb_Pk} {p0 : hb_Pk} {a b : Bool} (R : zR z m0 s p t h) (hl : l < 6) (e0 : sN s l = old ++ [p0]) (h1 : ¬ p0.1 = 1) (k : ∀ t' h', zR z m0 (tN s l (old ++ [(p0.1, p0.2.1, p0.2.2.1, p0.2.2.2.1, p0.2.2.2.2.1, a, b, p0.2.2.2.2.2.2.2)])) p t' h' → rf_E m0 h h' → Q (none, h')) : ev_M (mf_Z_marked z) [.ref m0, .int (nI l), .int (zb a), .int (zb b)] h Q := by
  have ix : 32 * nI l + nI (sN s l).length - 1 = nI (32 * l + old.length) := by
    have e : (sN s l).length = old.length + 1 := by rw [e0]; simp
    have := zma 32 l (old.length + 1)
    rw [e]
    refine Eq.trans (congrArg (fun x => x - 1) this) ?_
    rw [nI_p1 (by omega)]; congr 1
  refine ev_M.go rfl rfl ?_
  refine ev_W.fn rfl rfl ?_
  refine ev_W.fn rfl rfl ?_
  refine ev_W.fn rfl rfl ?_
  refine ev_W.fn rfl rfl ?_
  refine ev_W.obj rfl R.ob rfl ?_
  refine ev_W.fn rfl rfl ?_
  refine ev_W.g0 R hl rfl rfl ?_
  refine ev_W.fn rfl rfl ?_
  refine ev_W.fn rfl rfl ?_
  refine ev_W.fn rfl rfl ?_
  refine ev_W.fn rfl rfl ?_
  refine ev_W.fn rfl rfl ?_
  refine ev_W.obj rfl R.ob rfl ?_
  refine ev_W.fn rfl rfl ?_
  refine ev_W.fn rfl rfl ?_
  refine ev_W.p5L R (l := l) hl e0 h1 ix rfl (fun t1 u1 R1 E1 => ?_)
  refine ev_W.fn rfl rfl ?_
  refine ev_W.obj rfl R1.ob rfl ?_
  refine ev_W.fn rfl rfl ?_
  refine ev_W.fn rfl rfl ?_
  refine ev_W.p6L R1 (l := l) hl (sN_tN _ _ _) h1 ix rfl (fun t2 u2 R2 E2 => ?_)
  refine ev_W.ret rfl rfl ?_
  rw [tN_tN] at R2
  exact k _ _ R2 (E1.tr E2)
end ZL
