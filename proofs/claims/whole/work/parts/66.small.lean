/-! Constructors and small methods of the hub's classes (laid by wip/whole/p66.py). -/
theorem fb_bool (b : Bool) : fits .boolean (.int (zb b)) = true := by cases b <;> decide
theorem zb_n0 {b : Bool} : zb b = 0 ↔ b = false := by cases b <;> simp [zb]
section SM
variable {z : Nat × Nat} {sz dyn : Nat} {mu : Nat → Option ev_E} {G : hb_G} {n1 n2 : Nat} {s : hb_S} {h : ev_H} {Q : ev_O → Prop}
theorem sp_M_init {a : Nat} {t : Int64} {v q : Int32} {r : Bool} (ha : h.2.2 a = some (.inr (9, ff_9))) (k : Q (none, ev_put h a (.inr (9, hb_msF (t, v, q, r))))) : ev_M (mf_M_init z) [.ref a, .long t, .int v, .int q, .int (zb r)] h Q := by
  refine ev_M.go rfl rfl ?_
  refine ev_W.fn rfl rfl ?_
  refine ev_W.fn rfl rfl ?_
  refine ev_W.fn rfl rfl ?_
  refine ev_W.fn rfl rfl ?_
  refine ev_W.putf rfl ha rfl rfl rfl ?_
  refine ev_W.fn rfl rfl ?_
  refine ev_W.fn rfl rfl ?_
  refine ev_W.putf rfl ev_put_same rfl rfl rfl ?_
  refine ev_W.fn rfl rfl ?_
  refine ev_W.fn rfl rfl ?_
  refine ev_W.putf rfl ev_put_same rfl rfl rfl ?_
  refine ev_W.fn rfl rfl ?_
  refine ev_W.fn rfl rfl ?_
  refine ev_W.putf rfl ev_put_same rfl (nb_bool (zb_01 r)) (fb_bool r) ?_
  refine ev_W.ret rfl rfl ?_
  rw [ev_put_put, ev_put_put, ev_put_put]
  exact k
theorem sp_P_init {a : Nat} {ty id va : Int32} (ha : h.2.2 a = some (.inr (8, ff_8))) (k : Q (none, ev_put h a (.inr (8, hb_pkF (ty, id, va, 0, 0, false, false, 0, 0, 0))))) : ev_M (mf_P_init z) [.ref a, .int ty, .int id, .int va] h Q := by
  refine ev_M.go rfl rfl ?_
  refine ev_W.fn rfl rfl ?_
  refine ev_W.fn rfl rfl ?_
  refine ev_W.fn rfl rfl ?_
  refine ev_W.fn rfl rfl ?_
  refine ev_W.putf rfl ha rfl rfl rfl ?_
  refine ev_W.fn rfl rfl ?_
  refine ev_W.fn rfl rfl ?_
  refine ev_W.putf rfl ev_put_same rfl rfl rfl ?_
  refine ev_W.fn rfl rfl ?_
  refine ev_W.fn rfl rfl ?_
  refine ev_W.putf rfl ev_put_same rfl rfl rfl ?_
  refine ev_W.ret rfl rfl ?_
  rw [ev_put_put, ev_put_put]
  exact k
theorem sp_R_init {a ma : Nat} (ha : h.2.2 a = some (.inr (10, ff_10))) (k : Q (none, ev_put h a (.inr (10, [.ref ma, .int 0, .int 0])))) : ev_M (mf_R_init z) [.ref a, .ref ma] h Q := by
  refine ev_M.go rfl rfl ?_
  refine ev_W.fn rfl rfl ?_
  refine ev_W.fn rfl rfl ?_
  refine ev_W.fn rfl rfl ?_
  refine ev_W.fn rfl rfl ?_
  refine ev_W.putf rfl ha rfl rfl rfl ?_
  refine ev_W.fn rfl rfl ?_
  refine ev_W.fn rfl rfl ?_
  refine ev_W.putf rfl ev_put_same rfl rfl rfl ?_
  refine ev_W.ret rfl rfl ?_
  rw [ev_put_put]
  exact k
theorem sp_U_init {a : Nat} {f : Int64} (ha : h.2.2 a = some (.inr (11, ff_11))) (k : Q (none, ev_put h a (.inr (11, hb_sbF (f, 0, false))))) : ev_M (mf_U_init z) [.ref a, .long f] h Q := by
  refine ev_M.go rfl rfl ?_
  refine ev_W.fn rfl rfl ?_
  refine ev_W.fn rfl rfl ?_
  refine ev_W.fn rfl rfl ?_
  refine ev_W.fn rfl rfl ?_
  refine ev_W.putf rfl ha rfl rfl rfl ?_
  refine ev_W.ret rfl rfl ?_
  exact k
theorem sp_P_ofMessage {ma : Nat} {m : hb_Ms} {id : Int32} {ag : Bool} (R : hb_R z sz dyn mu G n1 n2 s h) (hm : h.2.2 ma = some (.inr (9, hb_msF m))) (k : ∀ (G' : hb_G) (h' : ev_H) (a : Nat), hb_R z sz dyn mu G' (n1 + 1) (n2 + 10) s h' → hb_E dyn G h G' h' → h'.2.2 a = some (.inr (8, hb_pkF (3, id, m.2.1, m.1, m.2.2.1, ag, m.2.2.2, 0, 0, 0))) → G'.1 a = 0 → dyn ≤ a → Q (some (.ref a), h')) : ev_M (mf_P_ofMessage z) [.ref ma, .int id, .int (zb ag)] h Q := by
  obtain ⟨t, v, q, r⟩ := m
  have hne : ma ≠ h.1 := Nat.ne_of_lt (R.1.1 ma _ hm)
  have hm1 : (ev_new h 10 (.inr (8, ff_8))).2.2 ma = some (.inr (9, hb_msF (t, v, q, r))) := (ev_new_ne hne).trans hm
  have hm2 : ∀ x, (ev_put (ev_new h 10 (.inr (8, ff_8))) h.1 x).2.2 ma = some (.inr (9, hb_msF (t, v, q, r))) := fun x => (ev_put_ne hne).trans hm1
  refine ev_M.go rfl rfl ?_
  refine ev_W.fn rfl rfl ?_
  refine ev_W.fn rfl rfl ?_
  refine ev_W.fn rfl rfl ?_
  refine ev_W.fn rfl rfl ?_
  refine ev_W.fn rfl rfl ?_
  refine ev_W.obj rfl hm1 rfl ?_
  refine ev_W.clI rfl rfl rfl rfl rfl ?_
  refine sp_P_init ev_new_same ?_
  refine ev_W.fn rfl rfl ?_
  refine ev_W.fn rfl rfl ?_
  refine ev_W.fn rfl rfl ?_
  refine ev_W.obj rfl (hm2 _) rfl ?_
  refine ev_W.putf rfl ev_put_same rfl rfl rfl ?_
  refine ev_W.fn rfl rfl ?_
  refine ev_W.fn rfl rfl ?_
  refine ev_W.obj rfl (by rw [ev_put_put]; exact hm2 _) rfl ?_
  refine ev_W.putf rfl ev_put_same rfl rfl rfl ?_
  refine ev_W.fn rfl rfl ?_
  refine ev_W.fn rfl rfl ?_
  refine ev_W.putf rfl ev_put_same rfl (nb_bool (zb_01 ag)) (fb_bool ag) ?_
  refine ev_W.fn rfl rfl ?_
  refine ev_W.fn rfl rfl ?_
  refine ev_W.obj rfl (by rw [ev_put_put, ev_put_put, ev_put_put]; exact hm2 _) rfl ?_
  refine ev_W.putf rfl ev_put_same rfl (nb_bool (zb_01 r)) (fb_bool r) ?_
  refine ev_W.fn rfl rfl ?_
  refine ev_W.ret rfl rfl ?_
  rw [ev_put_put, ev_put_put, ev_put_put, ev_put_put]
  obtain ⟨a1, a2, a3, a4, a5⟩ := R.mk0 10 (.inr (8, ff_8)) (.inr (8, hb_pkF (3, id, v, t, q, ag, r, 0, 0, 0)))
  exact k _ _ h.1 a1 a2 a3 a5 a4
theorem sp_P_ofFilter {ty va : Int32} {f : Int64} {nl : Bool} (R : hb_R z sz dyn mu G n1 n2 s h) (k : ∀ (G' : hb_G) (h' : ev_H) (a : Nat), hb_R z sz dyn mu G' (n1 + 1) (n2 + 10) s h' → hb_E dyn G h G' h' → h'.2.2 a = some (.inr (8, hb_pkF (ty, 0, va, f, 0, false, nl, 0, 0, 0))) → G'.1 a = 0 → dyn ≤ a → Q (some (.ref a), h')) : ev_M (mf_P_ofFilter z) [.int ty, .long f, .int va, .int (zb nl)] h Q := by
  refine ev_M.go rfl rfl ?_
  refine ev_W.fn rfl rfl ?_
  refine ev_W.fn rfl rfl ?_
  refine ev_W.fn rfl rfl ?_
  refine ev_W.fn rfl rfl ?_
  refine ev_W.fn rfl rfl ?_
  refine ev_W.clI rfl rfl rfl rfl rfl ?_
  refine sp_P_init ev_new_same ?_
  refine ev_W.fn rfl rfl ?_
  refine ev_W.fn rfl rfl ?_
  refine ev_W.fn rfl rfl ?_
  refine ev_W.putf rfl ev_put_same rfl rfl rfl ?_
  refine ev_W.fn rfl rfl ?_
  refine ev_W.fn rfl rfl ?_
  refine ev_W.putf rfl ev_put_same rfl (nb_bool (zb_01 nl)) (fb_bool nl) ?_
  refine ev_W.fn rfl rfl ?_
  refine ev_W.ret rfl rfl ?_
  rw [ev_put_put, ev_put_put]
  obtain ⟨a1, a2, a3, a4, a5⟩ := R.mk0 10 (.inr (8, ff_8)) (.inr (8, hb_pkF (ty, 0, va, f, 0, false, nl, 0, 0, 0)))
  exact k _ _ h.1 a1 a2 a3 a5 a4
theorem sp_P_ofConnect {cl : Bool} {ex wi ke wv : Int32} {wt : Int64} (R : hb_R z sz dyn mu G n1 n2 s h) (k : ∀ (G' : hb_G) (h' : ev_H) (a : Nat), hb_R z sz dyn mu G' (n1 + 1) (n2 + 10) s h' → hb_E dyn G h G' h' → h'.2.2 a = some (.inr (8, hb_pkF (1, 0, ex, wt, 0, false, cl, wi, ke, wv))) → G'.1 a = 0 → dyn ≤ a → Q (some (.ref a), h')) : ev_M (mf_P_ofConnect z) [.int (zb cl), .int ex, .int wi, .int ke, .long wt, .int wv] h Q := by
  refine ev_M.go rfl rfl ?_
  refine ev_W.fn rfl rfl ?_
  refine ev_W.fn rfl rfl ?_
  refine ev_W.fn rfl rfl ?_
  refine ev_W.fn rfl rfl ?_
  refine ev_W.fn rfl rfl ?_
  refine ev_W.clI rfl rfl rfl rfl rfl ?_
  refine sp_P_init ev_new_same ?_
  refine ev_W.fn rfl rfl ?_
  refine ev_W.fn rfl rfl ?_
  refine ev_W.fn rfl rfl ?_
  refine ev_W.putf rfl ev_put_same rfl (nb_bool (zb_01 cl)) (fb_bool cl) ?_
  refine ev_W.fn rfl rfl ?_
  refine ev_W.fn rfl rfl ?_
  refine ev_W.putf rfl ev_put_same rfl rfl rfl ?_
  refine ev_W.fn rfl rfl ?_
  refine ev_W.fn rfl rfl ?_
  refine ev_W.putf rfl ev_put_same rfl rfl rfl ?_
  refine ev_W.fn rfl rfl ?_
  refine ev_W.fn rfl rfl ?_
  refine ev_W.putf rfl ev_put_same rfl rfl rfl ?_
  refine ev_W.fn rfl rfl ?_
  refine ev_W.fn rfl rfl ?_
  refine ev_W.putf rfl ev_put_same rfl rfl rfl ?_
  refine ev_W.fn rfl rfl ?_
  refine ev_W.ret rfl rfl ?_
  rw [ev_put_put, ev_put_put, ev_put_put, ev_put_put, ev_put_put]
  obtain ⟨a1, a2, a3, a4, a5⟩ := R.mk0 10 (.inr (8, ff_8)) (.inr (8, hb_pkF (1, 0, ex, wt, 0, false, cl, wi, ke, wv)))
  exact k _ _ h.1 a1 a2 a3 a5 a4
theorem sp_M_copy {ma : Nat} {m : hb_Ms} {q : Int32} {r : Bool} (R : hb_R z sz dyn mu G n1 n2 s h) (hm : h.2.2 ma = some (.inr (9, hb_msF m))) (k : ∀ (G' : hb_G) (h' : ev_H) (a : Nat), hb_R z sz dyn mu G' (n1 + 1) (n2 + 4) s h' → hb_E dyn G h G' h' → h'.2.2 a = some (.inr (9, hb_msF (m.1, m.2.1, q, r))) → G'.1 a = 0 → dyn ≤ a → Q (some (.ref a), h')) : ev_M (mf_M_copy z) [.ref ma, .int q, .int (zb r)] h Q := by
  obtain ⟨t, v, q0, r0⟩ := m
  have hne : ma ≠ h.1 := Nat.ne_of_lt (R.1.1 ma _ hm)
  have hm1 : (ev_new h 4 (.inr (9, ff_9))).2.2 ma = some (.inr (9, hb_msF (t, v, q0, r0))) := (ev_new_ne hne).trans hm
  refine ev_M.go rfl rfl ?_
  refine ev_W.fn rfl rfl ?_
  refine ev_W.fn rfl rfl ?_
  refine ev_W.fn rfl rfl ?_
  refine ev_W.obj rfl hm1 rfl ?_
  refine ev_W.fn rfl rfl ?_
  refine ev_W.obj rfl hm1 rfl ?_
  refine ev_W.fn rfl rfl ?_
  refine ev_W.fn rfl rfl ?_
  refine ev_W.clI rfl rfl rfl rfl rfl ?_
  refine sp_M_init ev_new_same ?_
  refine ev_W.ret rfl rfl ?_
  obtain ⟨a1, a2, a3, a4, a5⟩ := R.mk0 4 (.inr (9, ff_9)) (.inr (9, hb_msF (t, v, q, r)))
  exact k _ _ h.1 a1 a2 a3 a5 a4
theorem sp_isWithin {n a c : Int32} (k : Q (some (.int (zb (decide (a ≤ n ∧ n ≤ c)))), h)) : ev_M (mf_H_isWithin z) [.int n, .int a, .int c] h Q := by
  refine ev_M.go rfl rfl ?_
  refine ev_W.fn rfl rfl ?_
  refine ev_W.fn rfl rfl ?_
  refine ev_W.br rfl rfl (fun h1 => ?_) (fun h1 => ?_)
  · refine ev_W.fn rfl rfl ?_
    refine ev_W.zret rfl (by decide) ?_
    have : ¬ a ≤ n := Int32.not_le.mpr h1
    simpa [this, zb] using k
  · refine ev_W.fn rfl rfl ?_
    refine ev_W.fn rfl rfl ?_
    refine ev_W.br rfl rfl (fun h2 => ?_) (fun h2 => ?_)
    · refine ev_W.fn rfl rfl ?_
      refine ev_W.zret rfl (by decide) ?_
      have : ¬ n ≤ c := Int32.not_le.mpr h2
      simpa [this, zb] using k
    · refine ev_W.fn rfl rfl ?_
      refine ev_W.fn rfl rfl ?_
      refine ev_W.zret rfl (by decide) ?_
      have e1 : a ≤ n := Int32.not_lt.mp h1
      have e2 : n ≤ c := Int32.not_lt.mp h2
      simpa [e1, e2, zb] using k
theorem sp_isClient {n : Int32} (k : Q (some (.int (zb (decide (0 ≤ n ∧ n ≤ 2)))), h)) : ev_M (mf_H_isClient z) [.int n] h Q := by
  refine ev_M.go rfl rfl ?_
  refine ev_W.fn rfl rfl ?_
  refine ev_W.fn rfl rfl ?_
  refine ev_W.fn rfl rfl ?_
  refine ev_W.cl rfl rfl rfl rfl rfl ?_
  refine sp_isWithin ?_
  exact ev_W.zret rfl (zb_01 _) k
theorem sp_I_add {a : Nat} {bits id : Int32} (ha : h.2.2 a = some (.inr (4, [.int bits]))) (k : Q (none, ev_put h a (.inr (4, [.int (bits ||| (1 <<< (id &&& 31)))])))) : ev_M (mf_I_add z) [.ref a, .int id] h Q := by
  refine ev_M.go rfl rfl ?_
  refine ev_W.fn rfl rfl ?_
  refine ev_W.fn rfl rfl ?_
  refine ev_W.obj rfl ha rfl ?_
  refine ev_W.fn rfl rfl ?_
  refine ev_W.fn rfl rfl ?_
  refine ev_W.fn rfl rfl ?_
  refine ev_W.fn rfl rfl ?_
  refine ev_W.putf rfl ha rfl rfl rfl ?_
  refine ev_W.ret rfl rfl ?_
  exact k
theorem sp_I_remove {a : Nat} {bits id : Int32} (ha : h.2.2 a = some (.inr (4, [.int bits]))) (k : Q (none, ev_put h a (.inr (4, [.int (bits &&& ((1 <<< (id &&& 31)) ^^^ (-1)))])))) : ev_M (mf_I_remove z) [.ref a, .int id] h Q := by
  refine ev_M.go rfl rfl ?_
  refine ev_W.fn rfl rfl ?_
  refine ev_W.fn rfl rfl ?_
  refine ev_W.obj rfl ha rfl ?_
  refine ev_W.fn rfl rfl ?_
  refine ev_W.fn rfl rfl ?_
  refine ev_W.fn rfl rfl ?_
  refine ev_W.fn rfl rfl ?_
  refine ev_W.fn rfl rfl ?_
  refine ev_W.fn rfl rfl ?_
  refine ev_W.putf rfl ha rfl rfl rfl ?_
  refine ev_W.ret rfl rfl ?_
  exact k
theorem sp_I_clear {a : Nat} {bits : Int32} (ha : h.2.2 a = some (.inr (4, [.int bits]))) (k : Q (none, ev_put h a (.inr (4, [.int 0])))) : ev_M (mf_I_clear z) [.ref a] h Q := by
  refine ev_M.go rfl rfl ?_
  refine ev_W.fn rfl rfl ?_
  refine ev_W.fn rfl rfl ?_
  refine ev_W.putf rfl ha rfl rfl rfl ?_
  refine ev_W.ret rfl rfl ?_
  exact k
theorem sp_I_has {a : Nat} {bits id : Int32} (ha : h.2.2 a = some (.inr (4, [.int bits]))) (k : Q (some (.int (zb (decide (¬ bits &&& (1 <<< (id &&& 31)) = 0)))), h)) : ev_M (mf_I_has z) [.ref a, .int id] h Q := by
  refine ev_M.go rfl rfl ?_
  refine ev_W.fn rfl rfl ?_
  refine ev_W.obj rfl ha rfl ?_
  refine ev_W.fn rfl rfl ?_
  refine ev_W.fn rfl rfl ?_
  refine ev_W.fn rfl rfl ?_
  refine ev_W.fn rfl rfl ?_
  refine ev_W.br rfl rfl (fun h1 => ?_) (fun h1 => ?_)
  · refine ev_W.fn rfl rfl ?_
    refine ev_W.zret rfl (by decide) ?_
    simpa [h1, zb] using k
  · refine ev_W.fn rfl rfl ?_
    refine ev_W.fn rfl rfl ?_
    refine ev_W.zret rfl (by decide) ?_
    simpa [h1, zb] using k
def bi_cnt (x : Int32) : Int32 :=
  let u (a : Int32) (k : Int32) : Int32 := (a.toUInt32 >>> (k.toUInt32 &&& Int32.toUInt32 31)).toInt32
  let a := x - (u x 1 &&& 1431655765)
  let b := (a &&& 858993459) + (u a 2 &&& 858993459)
  let c := (b + u b 4) &&& 252645135
  let d := c + u c 8
  let e := d + u d 16
  e &&& 63
theorem sp_JI_bitCount {x : Int32} (k : Q (some (.int (bi_cnt x)), h)) : ev_M (mf_JI_bitCount z) [.int x] h Q := by
  refine ev_M.go rfl rfl ?_
  refine ev_W.fn rfl rfl ?_
  refine ev_W.fn rfl rfl ?_
  refine ev_W.fn rfl rfl ?_
  refine ev_W.fn rfl rfl ?_
  refine ev_W.fn rfl rfl ?_
  refine ev_W.fn rfl rfl ?_
  refine ev_W.fn rfl rfl ?_
  refine ev_W.fn rfl rfl ?_
  refine ev_W.fn rfl rfl ?_
  refine ev_W.fn rfl rfl ?_
  refine ev_W.fn rfl rfl ?_
  refine ev_W.fn rfl rfl ?_
  refine ev_W.fn rfl rfl ?_
  refine ev_W.fn rfl rfl ?_
  refine ev_W.fn rfl rfl ?_
  refine ev_W.fn rfl rfl ?_
  refine ev_W.fn rfl rfl ?_
  refine ev_W.fn rfl rfl ?_
  refine ev_W.fn rfl rfl ?_
  refine ev_W.fn rfl rfl ?_
  refine ev_W.fn rfl rfl ?_
  refine ev_W.fn rfl rfl ?_
  refine ev_W.fn rfl rfl ?_
  refine ev_W.fn rfl rfl ?_
  refine ev_W.fn rfl rfl ?_
  refine ev_W.fn rfl rfl ?_
  refine ev_W.fn rfl rfl ?_
  refine ev_W.fn rfl rfl ?_
  refine ev_W.fn rfl rfl ?_
  refine ev_W.fn rfl rfl ?_
  refine ev_W.fn rfl rfl ?_
  refine ev_W.fn rfl rfl ?_
  refine ev_W.fn rfl rfl ?_
  refine ev_W.fn rfl rfl ?_
  refine ev_W.fn rfl rfl ?_
  refine ev_W.fn rfl rfl ?_
  refine ev_W.fn rfl rfl ?_
  refine ev_W.fn rfl rfl ?_
  refine ev_W.fn rfl rfl ?_
  refine ev_W.fn rfl rfl ?_
  refine ev_W.fn rfl rfl ?_
  refine ev_W.ret rfl rfl ?_
  exact k
theorem sp_I_count {a : Nat} {bits : Int32} (ha : h.2.2 a = some (.inr (4, [.int bits]))) (k : Q (some (.int (bi_cnt bits)), h)) : ev_M (mf_I_count z) [.ref a] h Q := by
  refine ev_M.go rfl rfl ?_
  refine ev_W.fn rfl rfl ?_
  refine ev_W.obj rfl ha rfl ?_
  refine ev_W.cl rfl rfl rfl rfl rfl ?_
  refine sp_JI_bitCount ?_
  refine ev_W.ret rfl rfl ?_
  exact k
end SM
