/-! Texts: the class's, left aligned, and the reference's, right aligned, say the same. -/
def by_ (N n : Nat) : Nat := N / 256 ^ n % 256
def nt (x : Int64) : Nat := x.toUInt64.toNat
theorem nt_lt (x : Int64) : nt x < 2 ^ 64 := x.toUInt64.toNat_lt
theorem nt_inj {x y : Int64} (h : nt x = nt y) : x = y := by
  have : x.toUInt64 = y.toUInt64 := UInt64.toNat_inj.mp h
  exact congrArg UInt64.toInt64 this
theorem by_lt (N n : Nat) : by_ N n < 256 := Nat.mod_lt _ (by decide)
theorem nt_of {n : Nat} (h : n < 2 ^ 64) : nt (Int64.ofNat n) = n := by
  unfold nt
  show (UInt64.ofNat n).toNat = n
  rw [UInt64.toNat_ofNat']; exact Nat.mod_eq_of_lt h
theorem tz_l_by (x : Int64) {n : Nat} (h : n < 8) : tz_l x (nI (8 * n)) = Int64.ofNat (by_ (nt x) n) := by
  apply nt_inj
  rw [nt_of (Nat.lt_trans (by_lt _ _) (by decide))]
  have key : ∀ (k : UInt64) (m : Nat), k.toNat = m → m < 64 → nt ((x.toUInt64 >>> k).toInt64 &&& 255) = nt x / 2 ^ m % 256 := by
    intro k m hk hm
    show ((x.toUInt64 >>> k).toInt64 &&& 255).toUInt64.toNat = _
    rw [Int64.toUInt64_and]
    show ((x.toUInt64 >>> k) &&& 255).toNat = _
    rw [UInt64.toNat_and, UInt64.toNat_shiftRight, hk, Nat.mod_eq_of_lt hm]
    show nt x >>> m &&& (2 ^ 8 - 1) = _
    rw [Nat.and_two_pow_sub_one_eq_mod, Nat.shiftRight_eq_div_pow]
  unfold tz_l by_
  have e : 256 ^ n = 2 ^ (8 * n) := by rw [Nat.pow_mul]
  rw [e]
  refine key _ _ ?_ (by omega)
  rcases (show n = 0 ∨ n = 1 ∨ n = 2 ∨ n = 3 ∨ n = 4 ∨ n = 5 ∨ n = 6 ∨ n = 7 by omega) with rfl | rfl | rfl | rfl | rfl | rfl | rfl | rfl <;> decide
theorem tx_ch_by (x : Int64) {i : Nat} (h : i < 8) : tx_ch x (nI i) = nI (by_ (nt x) (7 - i)) := by
  have key : ∀ (k : UInt64) (m : Nat), k.toNat = m → m < 64 → (x.toUInt64 >>> k).toInt64.toInt32 &&& 255 = nI (nt x / 2 ^ m % 256) := by
    intro k m hk hm
    refine (fun (q : ∀ a b : Int32, a.toUInt32 = b.toUInt32 → a = b) => q _ _ ?_) (fun a b q => congrArg UInt32.toInt32 q)
    apply UInt32.toNat_inj.mp
    rw [Int32.toUInt32_and]
    show (((x.toUInt64 >>> k).toInt64.toInt32).toUInt32 &&& 255).toNat = (UInt32.ofNat (nt x / 2 ^ m % 256)).toNat
    rw [UInt32.toNat_and, UInt32.toNat_ofNat']
    have : ((x.toUInt64 >>> k).toInt64.toInt32).toUInt32.toNat = (nt x / 2 ^ m) % 2 ^ 32 := by
      show ((x.toUInt64 >>> k).toBitVec.signExtend 32).toNat = _
      rw [BitVec.signExtend_eq_setWidth_of_le _ (by decide), BitVec.toNat_setWidth]
      show (x.toUInt64 >>> k).toNat % 2 ^ 32 = _
      rw [UInt64.toNat_shiftRight, hk, Nat.mod_eq_of_lt hm, Nat.shiftRight_eq_div_pow]; rfl
    rw [this]
    show (nt x / 2 ^ m) % 2 ^ 32 &&& (2 ^ 8 - 1) = _
    rw [Nat.and_two_pow_sub_one_eq_mod]
    omega
  unfold tx_ch by_
  have e : 256 ^ (7 - i) = 2 ^ (8 * (7 - i)) := by rw [Nat.pow_mul]
  rw [e]
  rcases (show i = 0 ∨ i = 1 ∨ i = 2 ∨ i = 3 ∨ i = 4 ∨ i = 5 ∨ i = 6 ∨ i = 7 by omega) with rfl | rfl | rfl | rfl | rfl | rfl | rfl | rfl <;> (rw [if_pos (by decide)]; exact key _ _ (by decide) (by decide))
def gv : List Nat → Nat
  | [] => 0
  | b :: r => gv r * 256 + b
def nzg (N : Nat) : Nat → List Nat
  | 0 => []
  | n + 1 => if by_ N n = 0 then nzg N n else by_ N n :: nzg N n
def nz (x : Int64) : List Nat := nzg (nt x) 8
def bts (r : List Nat) : Prop := ∀ b, b ∈ r → b < 256
theorem gv_lt : ∀ (r : List Nat), bts r → gv r < 256 ^ r.length := by
  intro r
  induction r with
  | nil => intro _; decide
  | cons b r ih =>
    intro h
    have h1 := ih (fun x hx => h x (List.mem_cons_of_mem _ hx))
    have h2 := h b List.mem_cons_self
    rw [gv, List.length_cons, Nat.pow_succ]
    omega
theorem by_s (N b k : Nat) (hb : b < 256) : by_ (N * 256 + b) (k + 1) = by_ N k := by
  unfold by_
  rw [Nat.pow_succ, Nat.mul_comm (256 ^ k), ← Nat.div_div_eq_div_mul]
  congr 2
  omega
theorem by_0 (N b : Nat) (hb : b < 256) : by_ (N * 256 + b) 0 = b := by
  unfold by_
  rw [Nat.pow_zero, Nat.div_one]; omega
theorem nzg_s (N b : Nat) (hb : b < 256) : ∀ n, nzg (N * 256 + b) (n + 1) = nzg N n ++ (if b = 0 then [] else [b]) := by
  intro n
  induction n with
  | zero =>
    simp only [nzg, by_0 _ _ hb]
    simp
  | succ n ih =>
    rw [nzg, ih, by_s _ _ _ hb]
    conv => rhs; rw [nzg]
    split <;> simp
theorem nzg_0 : ∀ n, nzg 0 n = [] := by
  intro n
  induction n with
  | zero => rfl
  | succ n ih => rw [nzg, ih]; simp [by_]
theorem nzg_gv : ∀ (r : List Nat) (n : Nat), bts r → r.length ≤ n → nzg (gv r) n = r.reverse.filter (fun b => decide (¬ b = 0)) := by
  intro r
  induction r with
  | nil => intro n _ _; rw [gv, nzg_0]; rfl
  | cons b r ih =>
    intro n h hn
    cases n with
    | zero => simp at hn
    | succ n =>
      have h2 := h b List.mem_cons_self
      rw [gv, nzg_s _ _ h2, ih n (fun x hx => h x (List.mem_cons_of_mem _ hx)) (by simpa using hn), List.reverse_cons, List.filter_append]
      congr 1
      by_cases q : b = 0 <;> simp [q]
theorem nzg_mem (N : Nat) : ∀ n b, b ∈ nzg N n → b < 256 ∧ ¬ b = 0 := by
  intro n
  induction n with
  | zero => intro b h; simp [nzg] at h
  | succ n ih =>
    intro b h
    rw [nzg] at h
    split at h
    · exact ih b h
    · rename_i q
      rcases List.mem_cons.mp h with rfl | h
      · exact ⟨by_lt _ _, q⟩
      · exact ih b h
theorem nzg_len (N : Nat) : ∀ n, (nzg N n).length ≤ n := by
  intro n
  induction n with
  | zero => exact Nat.le_refl _
  | succ n ih =>
    rw [nzg]; split
    · omega
    · rw [List.length_cons]; omega
theorem nz_bts (x : Int64) : bts (nz x).reverse := fun b hb => (nzg_mem _ _ b (List.mem_reverse.mp hb)).1
theorem nz_len (x : Int64) : (nz x).length ≤ 8 := nzg_len _ _
theorem nz_ne (x : Int64) : ∀ b, b ∈ nz x → ¬ b = 0 := fun b hb => (nzg_mem _ _ b hb).2
theorem nz_fl (x : Int64) : (nz x).filter (fun b => decide (¬ b = 0)) = nz x := List.filter_eq_self.mpr (fun b hb => decide_eq_true (nz_ne x b hb))
theorem gv_64 {r : List Nat} (h : bts r) (hl : r.length ≤ 8) : gv r < 2 ^ 64 := Nat.lt_of_lt_of_le (gv_lt r h) (by
  have : 256 ^ r.length ≤ 256 ^ 8 := Nat.pow_le_pow_right (by decide) hl
  exact this)
theorem nz_gv {r : List Nat} (h : bts r) (hl : r.length ≤ 8) : nz (Int64.ofNat (gv r)) = r.reverse.filter (fun b => decide (¬ b = 0)) := by
  unfold nz; rw [nt_of (gv_64 h hl)]; exact nzg_gv r 8 h hl
theorem of_i32 {b : Nat} (h : b < 256) : (Int64.ofNat b).toInt32 = nI b := by
  have : ∀ b, b < 256 → (Int64.ofNat b).toInt32 = nI b := by decide +kernel
  exact this b h
theorem nI_z {b : Nat} (h : b < 256) : nI b = 0 ↔ b = 0 := by
  have : ∀ b, b < 256 → (nI b = 0 ↔ b = 0) := by decide +kernel
  exact this b h
theorem of_z {b : Nat} (h : b < 256) : Int64.ofNat b = 0 ↔ b = 0 := by
  have : ∀ b, b < 256 → (Int64.ofNat b = 0 ↔ b = 0) := by decide +kernel
  exact this b h
theorem tz_bg_nz (x : Int64) : ∀ n, n ≤ 8 → tz_bg x n = (nzg (nt x) n).map nI := by
  intro n
  induction n with
  | zero => intro _; rfl
  | succ n ih =>
    intro hn
    rw [tz_bg, nzg, tz_l_by x (by omega), of_i32 (by_lt _ _), ih (by omega)]
    by_cases q : by_ (nt x) n = 0
    · rw [if_pos q, if_pos ((nI_z (by_lt _ _)).mpr q)]
    · rw [if_neg q, if_neg (fun e => q ((nI_z (by_lt _ _)).mp e))]; rfl
theorem tz_bs_nz (x : Int64) : tz_bs x = (nz x).map nI := tz_bg_nz x 8 (Nat.le_refl _)
theorem gv_app : ∀ (a r : List Nat), gv (a ++ r) = gv r * 256 ^ a.length + gv a := by
  intro a
  induction a with
  | nil => intro r; simp [gv]
  | cons b a ih =>
    intro r
    rw [List.cons_append, gv, ih, gv, List.length_cons, Nat.pow_succ, Nat.add_mul, ← Nat.mul_assoc]; omega
theorem tz_pg_nz (x : Int64) : ∀ n r, n ≤ 8 → bts r → r.length + n ≤ 8 → tz_pg x n (Int64.ofNat (gv r)) = Int64.ofNat (gv ((nzg (nt x) n).reverse ++ r)) := by
  intro n
  induction n with
  | zero => intro r _ _ _; rfl
  | succ n ih =>
    intro r hn hr hl
    rw [tz_pg, nzg, tz_l_by x (by omega)]
    by_cases q : by_ (nt x) n = 0
    · rw [if_pos q, if_pos ((of_z (by_lt _ _)).mpr q), ih r (by omega) hr (by omega)]
    · rw [if_neg q, if_neg (fun e => q ((of_z (by_lt _ _)).mp e))]
      have e : Int64.ofNat (gv r) * 256 + Int64.ofNat (by_ (nt x) n) = Int64.ofNat (gv (by_ (nt x) n :: r)) := by
        rw [gv, Int64.ofNat_add, Int64.ofNat_mul]; rfl
      rw [e, ih _ (by omega) (fun b hb => by rcases List.mem_cons.mp hb with rfl | hb; exact by_lt _ _; exact hr b hb) (by simp; omega)]
      simp
theorem tz_pl_nz (x : Int64) : tz_pl x = Int64.ofNat (gv (nz x).reverse) := by
  have := tz_pg_nz x 8 [] (Nat.le_refl _) (fun b hb => by cases hb) (by decide)
  rw [List.append_nil] at this
  exact this
def lf (l : List Nat) : List Nat := List.replicate (8 - l.length) 0 ++ l.reverse
theorem gv_rep (k : Nat) : gv (List.replicate k 0) = 0 := by
  induction k with
  | zero => rfl
  | succ k ih => rw [List.replicate_succ, gv, ih]
theorem gv_lf (l : List Nat) : gv (lf l) = gv l.reverse * 256 ^ (8 - l.length) := by
  unfold lf; rw [gv_app, gv_rep, List.length_replicate]; rfl
theorem lf_len {l : List Nat} (h : l.length ≤ 8) : (lf l).length = 8 := by
  unfold lf; simp; omega
theorem lf_bts {l : List Nat} (h : bts l.reverse) : bts (lf l) := by
  intro b hb
  unfold lf at hb
  rcases List.mem_append.mp hb with hb | hb
  · rw [(List.mem_replicate.mp hb).2]; decide
  · exact h b hb
theorem nI_64 {b : Nat} (h : b < 256) : (nI b).toInt64 = Int64.ofNat b := by
  have : ∀ b, b < 256 → (nI b).toInt64 = Int64.ofNat b := by decide +kernel
  exact this b h
theorem nt_shl (x k : Int64) {m : Nat} (hk : (k.toBitVec.smod 64).toNat = m) : nt (x <<< k) = nt x * 2 ^ m % 2 ^ 64 := by
  show (x.toBitVec <<< (k.toBitVec.smod 64)).toNat = _
  rw [BitVec.shiftLeft_eq', BitVec.toNat_shiftLeft, hk, Nat.shiftLeft_eq]; rfl
theorem nt_or (x y : Int64) : nt (x ||| y) = nt x ||| nt y := by
  unfold nt; rw [Int64.toUInt64_or, UInt64.toNat_or]
theorem tx_or {G b l : Nat} (hl : l < 8) (hb : b < 256) (hG : G * 256 ^ (8 - l) < 2 ^ 64) : Int64.ofNat (G * 256 ^ (8 - l)) ||| (Int64.ofNat b <<< ((56 - 8 * nI l).toInt64 &&& 63)) = Int64.ofNat ((G * 256 + b) * 256 ^ (7 - l)) := by
  have e8 : 256 ^ (8 - l) = 256 * 256 ^ (7 - l) := by rw [show 8 - l = 7 - l + 1 by omega, Nat.pow_succ, Nat.mul_comm]
  have hp : 256 ^ (7 - l) * 256 ^ l = 256 ^ 7 := by rw [← Nat.pow_add]; congr 1; omega
  have hb2 : b * 256 ^ (7 - l) < 256 ^ (8 - l) := by rw [e8]; exact Nat.mul_lt_mul_of_pos_right hb (Nat.pow_pos (by decide))
  have h64 : 256 ^ (8 - l) ≤ 2 ^ 64 := by
    have : 256 ^ (8 - l) ≤ 256 ^ 8 := Nat.pow_le_pow_right (by decide) (by omega)
    exact this
  have hS : (G * 256 + b) * 256 ^ (7 - l) = 256 ^ (8 - l) * G + b * 256 ^ (7 - l) := by rw [Nat.add_mul, e8, Nat.mul_assoc, Nat.mul_comm G]
  have hlt : 256 ^ (8 - l) * G + b * 256 ^ (7 - l) < 2 ^ 64 := by
    have hd : 256 ^ (8 - l) ∣ 2 ^ 64 := by
      have : (2 : Nat) ^ 64 = 256 ^ 8 := by decide
      rw [this]; exact Nat.pow_dvd_pow _ (by omega)
    obtain ⟨q, hq⟩ := hd
    rw [hq] at hG ⊢
    have hGq : G < q := by
      rw [Nat.mul_comm] at hG
      exact Nat.lt_of_mul_lt_mul_left hG
    calc 256 ^ (8 - l) * G + b * 256 ^ (7 - l) < 256 ^ (8 - l) * G + 256 ^ (8 - l) := by omega
      _ = 256 ^ (8 - l) * (G + 1) := by rw [Nat.mul_add, Nat.mul_one]
      _ ≤ 256 ^ (8 - l) * q := Nat.mul_le_mul_left _ hGq
  apply nt_inj
  rw [nt_or, nt_of hG, hS, nt_of hlt]
  have sh : nt (Int64.ofNat b <<< ((56 - 8 * nI l).toInt64 &&& 63)) = b * 256 ^ (7 - l) := by
    rw [nt_shl _ _ (m := 8 * (7 - l)) (by rcases (show l = 0 ∨ l = 1 ∨ l = 2 ∨ l = 3 ∨ l = 4 ∨ l = 5 ∨ l = 6 ∨ l = 7 by omega) with rfl | rfl | rfl | rfl | rfl | rfl | rfl | rfl <;> decide), nt_of (by omega), Nat.pow_mul]
    exact Nat.mod_eq_of_lt (by show b * 256 ^ (7 - l) < 2 ^ 64; omega)
  rw [sh, Nat.mul_comm G]
  have p2 : 256 ^ (8 - l) = 2 ^ (8 * (8 - l)) := by rw [Nat.pow_mul]
  rw [p2] at hb2 ⊢
  exact (Nat.two_pow_add_eq_or_of_lt hb2 G).symm
theorem tx_rg_nz (g : Int64) : ∀ n i d, i + n = 8 → bts d.reverse → d.length ≤ i → tx_rg g n i (Int64.ofNat (gv (lf d))) d.length = Int64.ofNat (gv (lf (d ++ nzg (nt g) n))) := by
  intro n
  induction n with
  | zero => intro i d _ _ _; rw [tx_rg, nzg, List.append_nil]
  | succ n ih =>
    intro i d hi hd hl
    rw [tx_rg, nzg, tx_ch_by g (by omega), nI_64 (by_lt _ _), show 7 - i = n by omega]
    by_cases q : by_ (nt g) n = 0
    · rw [if_pos q, if_pos ((of_z (by_lt _ _)).mpr q), ih _ _ (by omega) hd (by omega)]
    · rw [if_neg q, if_neg (fun e => q ((of_z (by_lt _ _)).mp e))]
      have hG := gv_64 (lf_bts hd) (Nat.le_of_eq (lf_len (by omega)))
      have hd2 : bts (d ++ [by_ (nt g) n]).reverse := by
        intro b hb
        rw [List.reverse_append] at hb
        rcases List.mem_append.mp hb with hb | hb
        · rw [List.mem_reverse, List.mem_singleton] at hb; rw [hb]; exact by_lt _ _
        · exact hd b hb
      have e := tx_or (G := gv d.reverse) (b := by_ (nt g) n) (l := d.length) (by omega) (by_lt _ _) (by rw [← gv_lf]; exact hG)
      have e2 : (gv d.reverse * 256 + by_ (nt g) n) * 256 ^ (7 - d.length) = gv (lf (d ++ [by_ (nt g) n])) := by
        rw [gv_lf, List.reverse_append, List.length_append]
        show _ = gv (by_ (nt g) n :: d.reverse) * 256 ^ (8 - (d.length + 1))
        rw [gv]; congr 2; omega
      rw [gv_lf, e, e2]
      have := ih (i + 1) (d ++ [by_ (nt g) n]) (by omega) hd2 (by simp; omega)
      rw [List.length_append] at this
      rw [show d.length + 1 = d.length + [by_ (nt g) n].length from rfl, this]
      simp
theorem tx_read_nz (g : Int64) : tx_read g = Int64.ofNat (gv (lf (nz g))) := by
  have := tx_rg_nz g 8 0 [] rfl (fun b hb => by cases hb) (Nat.le_refl _)
  rw [List.nil_append] at this
  exact this
theorem lf_fl (l : List Nat) : (lf l).reverse.filter (fun b => decide (¬ b = 0)) = l.filter (fun b => decide (¬ b = 0)) := by
  unfold lf; rw [List.reverse_append, List.reverse_reverse, List.filter_append]
  have : (List.replicate (8 - l.length) 0).reverse.filter (fun b => decide (¬ b = 0)) = [] := by
    rw [List.reverse_replicate]
    exact List.filter_eq_nil_iff.mpr (fun b hb => by rw [(List.mem_replicate.mp hb).2]; decide)
  rw [this, List.append_nil]
theorem nz_read (g : Int64) : nz (tx_read g) = nz g := by
  rw [tx_read_nz, nz_gv (lf_bts (nz_bts g)) (Nat.le_of_eq (lf_len (nz_len g))), lf_fl, nz_fl]
theorem nz_pl (g : Int64) : nz (tz_pl g) = nz g := by
  rw [tz_pl_nz, nz_gv (nz_bts g) (by rw [List.length_reverse]; exact nz_len g), List.reverse_reverse, nz_fl]
theorem pl_read (g : Int64) : tz_pl (tx_read g) = tz_pl g := by rw [tz_pl_nz, nz_read, ← tz_pl_nz]
theorem read_read (g : Int64) : tx_read (tx_read g) = tx_read g := by rw [tx_read_nz (tx_read g), nz_read, ← tx_read_nz]
theorem read_pl (g : Int64) : tx_read (tz_pl g) = tx_read g := by rw [tx_read_nz (tz_pl g), nz_pl, ← tx_read_nz]
theorem bs_pl (g : Int64) : tz_bs (tz_pl g) = tz_bs g := by rw [tz_bs_nz, nz_pl, ← tz_bs_nz]
theorem bs_read (g : Int64) : tz_bs (tx_read g) = tz_bs g := by rw [tz_bs_nz, nz_read, ← tz_bs_nz]
theorem pl_inj {a b : Int64} (ha : tx_read a = a) (hb : tx_read b = b) : tz_pl a = tz_pl b ↔ a = b :=
  ⟨fun h => by rw [← ha, ← hb, ← read_pl a, ← read_pl b, h], fun h => by rw [h]⟩
theorem pl_0 {a : Int64} (ha : tx_read a = a) : tz_pl a = 0 ↔ a = 0 := by
  have h0 : tx_read 0 = 0 := by decide +kernel
  have h1 : tz_pl 0 = 0 := by decide +kernel
  have := pl_inj ha h0
  rw [h1] at this; exact this
theorem by_gv : ∀ (r : List Nat) (k : Nat), bts r → by_ (gv r) k = r.getD k 0 := by
  intro r
  induction r with
  | nil => intro k _; simp [gv, by_]
  | cons b r ih =>
    intro k h
    have h2 := h b List.mem_cons_self
    cases k with
    | zero => rw [gv, by_0 _ _ h2]; rfl
    | succ k => rw [gv, by_s _ _ _ h2, ih k (fun x hx => h x (List.mem_cons_of_mem _ hx))]; rfl
theorem lf_at {l : List Nat} (hl : l.length ≤ 8) {i : Nat} (h : i < 8) : (lf l).getD (7 - i) 0 = l.getD i 0 := by
  unfold lf
  rw [List.getD_eq_getElem?_getD, List.getD_eq_getElem?_getD]
  by_cases q : i < l.length
  · rw [List.getElem?_append_right (by simp; omega), List.getElem?_reverse (by simp; omega)]
    congr 2
    simp; omega
  · rw [List.getElem?_append_left (by simp; omega), List.getElem?_replicate, if_pos (by omega), List.getElem?_eq_none (by omega)]; rfl
def EV (l : List Nat) : Int64 := Int64.ofNat (gv (lf l))
def okb (l : List Nat) : Prop := l.length ≤ 8 ∧ (∀ b, b ∈ l → b < 256 ∧ ¬ b = 0)
theorem okb.r {l : List Nat} (h : okb l) : bts l.reverse := fun b hb => (h.2 b (List.mem_reverse.mp hb)).1
theorem okb.t {b : Nat} {l : List Nat} (h : okb (b :: l)) : okb l := ⟨by have := h.1; simp at this; omega, fun x hx => h.2 x (List.mem_cons_of_mem _ hx)⟩
theorem okb.d {l : List Nat} (h : okb l) (n : Nat) : okb (l.drop n) := ⟨by have := h.1; simp; omega, fun x hx => h.2 x (List.mem_of_mem_drop hx)⟩
theorem nz_ok (x : Int64) : okb (nz x) := ⟨nz_len x, fun b hb => nzg_mem _ _ b hb⟩
theorem EV_nt {l : List Nat} (h : okb l) : nt (EV l) = gv (lf l) := nt_of (gv_64 (lf_bts h.r) (Nat.le_of_eq (lf_len h.1)))
theorem ch_EV {l : List Nat} (h : okb l) {i : Nat} (hi : i < 8) : tx_ch (EV l) (nI i) = nI (l.getD i 0) := by
  rw [tx_ch_by _ hi, EV_nt h, by_gv _ _ (lf_bts h.r), lf_at h.1 hi]
theorem nz_EV {l : List Nat} (h : okb l) : nz (EV l) = l := by
  unfold EV
  rw [nz_gv (lf_bts h.r) (Nat.le_of_eq (lf_len h.1)), lf_fl]
  exact List.filter_eq_self.mpr (fun b hb => decide_eq_true (h.2 b hb).2)
theorem EV_0 {l : List Nat} (h : okb l) : EV l = 0 ↔ l = [] := by
  constructor
  · intro e
    have := nz_EV h
    rw [e] at this
    rw [← this]; decide +kernel
  · intro e; rw [e]; decide +kernel
theorem top_EV {l : List Nat} (h : okb l) : tx_top (EV l) = Int64.ofNat (l.getD 0 0) := by
  apply nt_inj
  have hb : l.getD 0 0 < 256 := by
    cases l with
    | nil => decide
    | cons b l => exact (h.2 b List.mem_cons_self).1
  rw [nt_of (by omega)]
  unfold tx_top
  show ((EV l).toUInt64 >>> _).toNat = _
  rw [UInt64.toNat_shiftRight]
  show nt (EV l) >>> 56 = _
  rw [Nat.shiftRight_eq_div_pow, ← lf_at h.1 (i := 0) (by decide), ← by_gv _ _ (lf_bts h.r), EV_nt h]
  have := gv_64 (lf_bts h.r) (Nat.le_of_eq (lf_len h.1))
  unfold by_
  have e : (256 : Nat) ^ (7 - 0) = 2 ^ 56 := by decide
  rw [e]
  omega
theorem sh_EV {b : Nat} {l : List Nat} (h : okb (b :: l)) : tx_sh (EV (b :: l)) = EV l := by
  apply nt_inj
  unfold tx_sh
  rw [nt_shl _ _ (m := 8) (by decide), EV_nt h, EV_nt h.t, gv_lf, gv_lf, List.reverse_cons, gv_app]
  have hl := h.1
  rw [List.length_cons] at hl ⊢
  rw [List.length_reverse]
  show (gv [b] * 256 ^ l.length + gv l.reverse) * 256 ^ (8 - (l.length + 1)) * 2 ^ 8 % 2 ^ 64 = _
  have e1 : gv [b] = b := by simp [gv]
  have e3 : 256 ^ (8 - (l.length + 1)) * 2 ^ 8 = 256 ^ (8 - l.length) := by
    rw [show 8 - l.length = 8 - (l.length + 1) + 1 by omega]
    exact (Nat.pow_succ 256 _).symm
  have e4 : 256 ^ l.length * 256 ^ (8 - l.length) = 2 ^ 64 := by
    rw [← Nat.pow_add, show l.length + (8 - l.length) = 8 by omega]
  rw [e1, Nat.mul_assoc, e3, Nat.add_mul, Nat.mul_assoc, e4]
  have := gv_64 (lf_bts h.t.r) (Nat.le_of_eq (lf_len h.t.1))
  rw [gv_lf] at this
  omega
theorem sh_0 : tx_sh 0 = 0 := by decide +kernel
theorem ch_out {x : Int64} {i : Int32} (h : ¬ (0 ≤ i ∧ i ≤ 7)) : tx_ch x i = 0 := if_neg h
-- topics
theorem tg_EV {l : List Nat} (h : okb l) : ∀ n i, i + n = 8 → tx_tg (EV l) n i = (decide (0 < l.length) && (l.drop i).all (fun b => tx_pl (nI b))) := by
  intro n
  induction n with
  | zero =>
    intro i hi
    rw [tx_tg, List.drop_eq_nil_of_le (by have := h.1; omega)]
    have := EV_0 h
    cases l with
    | nil => simp [this.mpr rfl]
    | cons b l => simp; exact fun e => List.cons_ne_nil b l (this.mp e)
  | succ n ih =>
    intro i hi
    rw [tx_tg, ch_EV h (by omega)]
    by_cases q : i < l.length
    · have hd : l.drop i = l[i] :: l.drop (i + 1) := List.drop_eq_getElem_cons q
      have hg : l.getD i 0 = l[i] := by rw [List.getD_eq_getElem?_getD, List.getElem?_eq_getElem q]; rfl
      rw [hd, List.all_cons, hg]
      have hm := h.2 l[i] (List.getElem_mem q)
      have hz : ¬ nI l[i] = 0 := fun e => hm.2 ((nI_z hm.1).mp e)
      cases hp : tx_pl (nI l[i]) with
      | true => rw [if_pos (Or.inr rfl), ih _ (by omega), Bool.true_and]
      | false => rw [if_neg (fun e => e.elim hz (fun e => by cases e)), Bool.false_and, Bool.and_false]
    · have hg : l.getD i 0 = 0 := by rw [List.getD_eq_getElem?_getD, List.getElem?_eq_none (by omega)]; rfl
      rw [hg, if_pos (Or.inl (show nI 0 = 0 from rfl)), ih _ (by omega), List.drop_eq_nil_of_le (by omega), List.drop_eq_nil_of_le (by omega)]
theorem EV_nz (x : Int64) : EV (nz x) = tx_read x := (tx_read_nz x).symm
theorem zt_eq (x : Int64) : zt_ (tz_bs x) = tx_tg (tx_read x) 8 0 := by
  rw [← EV_nz, tg_EV (nz_ok x) 8 0 rfl, tz_bs_nz]
  unfold zt_
  rw [List.length_map, List.all_map]; rfl
theorem nI_k {a b : Nat} (ha : a < 256) (hb : b < 256) : nI a = nI b ↔ a = b := by
  constructor
  · intro h
    have e := congrArg (fun x : Int32 => x.toUInt32.toNat) h
    have h1 : ∀ a, a < 256 → (nI a).toUInt32.toNat = a := by decide +kernel
    simp only [h1 a ha, h1 b hb] at e
    exact e
  · intro h; rw [h]
theorem okb.g {l : List Nat} (h : okb l) (i : Nat) : l.getD i 0 < 256 := by
  rw [List.getD_eq_getElem?_getD]
  cases e : l[i]? with
  | none => decide
  | some b => exact (h.2 b (List.mem_of_getElem? e)).1
theorem okb.gz {l : List Nat} (h : okb l) {i : Nat} : l.getD i 0 = 0 ↔ l.length ≤ i := by
  rw [List.getD_eq_getElem?_getD]
  cases e : l[i]? with
  | none => simp; exact List.getElem?_eq_none_iff.mp e
  | some b =>
    have := (h.2 b (List.mem_of_getElem? e)).2
    have hl := (List.getElem?_eq_some_iff.mp e).1
    simp [this]; omega
theorem ch_any {l : List Nat} (h : okb l) (i : Nat) (hi : i ≤ 8) : tx_ch (EV l) (nI i) = nI (l.getD i 0) := by
  by_cases q : i < 8
  · exact ch_EV h q
  · have : i = 8 := by omega
    subst this
    rw [h.gz.mpr h.1]
    exact ch_out (by decide)
theorem jk_EV {l : List Nat} (h : okb l) {i : Nat} (hi : i < l.length) : tx_jk (EV l) (nI i) = (decide (i = 0 ∨ l.getD (i - 1) 0 = 47) && ((decide (l.getD i 0 = 43) && (decide (i + 1 = l.length) || decide (l.getD (i + 1) 0 = 47))) || (decide (l.getD i 0 = 35) && decide (i + 1 = l.length)))) := by
  have h8 := h.1
  have hn : nI i + 1 = nI (i + 1) := (Int32.ofNat_add i 1).symm
  have e0 : ∀ j, (nI (l.getD j 0) = 0 ↔ l.length ≤ j) := fun j => (nI_z (h.g j)).trans h.gz
  have ek : ∀ j k, k < 256 → (nI (l.getD j 0) = nI k ↔ l.getD j 0 = k) := fun j k hk => nI_k (h.g j) hk
  have last : l.length ≤ i + 1 ↔ i + 1 = l.length := by omega
  unfold tx_jk
  rw [hn, ch_any h i (by omega), ch_any h (i + 1) (by omega)]
  have b43 : nI (l.getD i 0) = 43 ↔ l.getD i 0 = 43 := ek i 43 (by decide)
  have b35 : nI (l.getD i 0) = 35 ↔ l.getD i 0 = 35 := ek i 35 (by decide)
  have b47 : nI (l.getD (i + 1) 0) = 47 ↔ l.getD (i + 1) 0 = 47 := ek (i + 1) 47 (by decide)
  have bz := e0 (i + 1)
  rw [last] at bz
  have main : (decide (nI (l.getD i 0) = 43) && (decide (nI (l.getD (i + 1) 0) = 0) || decide (nI (l.getD (i + 1) 0) = 47)) || decide (nI (l.getD i 0) = 35) && decide (nI (l.getD (i + 1) 0) = 0)) = ((decide (l.getD i 0 = 43) && (decide (i + 1 = l.length) || decide (l.getD (i + 1) 0 = 47))) || (decide (l.getD i 0 = 35) && decide (i + 1 = l.length))) := by
    simp only [b43, bz, b47, b35]
  by_cases q : i = 0
  · subst q
    have hc : tx_ch (EV l) (nI 0 - 1) = 0 := ch_out (by decide)
    rw [hc, if_neg (fun e => e.1 rfl)]
    rw [main]; simp
  · have hm : nI i - 1 = nI (i - 1) := by
      have e : i = i - 1 + 1 := by omega
      have : nI i = nI (i - 1) + 1 := by rw [show nI i = nI (i - 1 + 1) by rw [← e]]; exact Int32.ofNat_add (i - 1) 1
      rw [this, Int32.add_sub_cancel]
    rw [hm, ch_any h (i - 1) (by omega)]
    have p47 := ek (i - 1) 47 (by decide)
    have pz : ¬ nI (l.getD (i - 1) 0) = 0 := fun e => by have := (e0 (i - 1)).mp e; omega
    by_cases w : l.getD (i - 1) 0 = 47
    · rw [if_neg (fun e => e.2 (p47.mpr w)), main, decide_eq_true (Or.inr w), Bool.true_and]
    · rw [if_pos ⟨pz, fun e => w (p47.mp e)⟩, decide_eq_false (fun e => e.elim q w), Bool.false_and]
theorem zok_EV {l : List Nat} (h : okb l) {i : Nat} (hi : i < l.length) : zf_ok (l.map nI) i = (tx_pl (nI (l.getD i 0)) || tx_jk (EV l) (nI i)) := by
  have h8 := h.1
  have hg : l.getD i 0 = l[i] := by rw [List.getD_eq_getElem?_getD, List.getElem?_eq_getElem hi]; rfl
  have hM : ∀ j k, k < 256 → ¬ k = 0 → ((l.map nI)[j]? = some (nI k) ↔ l.getD j 0 = k) := by
    intro j k hk hk0
    rw [List.getElem?_map, List.getD_eq_getElem?_getD]
    cases e : l[j]? with
    | none => simp; exact fun q => hk0 q.symm
    | some b => simp; exact nI_k (h.2 b (List.mem_of_getElem? e)).1 hk
  rw [jk_EV h hi]
  unfold zf_ok
  rw [List.getElem?_map, List.getElem?_eq_getElem hi, hg, List.length_map]
  show (tx_pl (nI l[i]) || (decide ((i = 0 ∨ (l.map nI)[i - 1]? = some 47) ∧ (i = l.length - 1 ∨ (l.map nI)[i + 1]? = some 47)) && (decide (nI l[i] = 43) || (decide (nI l[i] = 35) && decide (i = l.length - 1))))) = _
  have a1 : (l.map nI)[i - 1]? = some 47 ↔ l.getD (i - 1) 0 = 47 := hM (i - 1) 47 (by decide) (by decide)
  have a2 : (l.map nI)[i + 1]? = some 47 ↔ l.getD (i + 1) 0 = 47 := hM (i + 1) 47 (by decide) (by decide)
  have hb := (h.2 l[i] (List.getElem_mem hi)).1
  have a3 : nI l[i] = 43 ↔ l[i] = 43 := nI_k hb (show 43 < 256 by decide)
  have a4 : nI l[i] = 35 ↔ l[i] = 35 := nI_k hb (show 35 < 256 by decide)
  have a5 : i = l.length - 1 ↔ i + 1 = l.length := by omega
  simp only [a1, a2, a3, a4, a5]
  by_cases x1 : (i = 0 ∨ l.getD (i - 1) 0 = 47) <;> by_cases x2 : i + 1 = l.length <;> by_cases x3 : l.getD (i + 1) 0 = 47 <;> by_cases x4 : l[i] = 43 <;> by_cases x5 : l[i] = 35 <;> simp [x1, x2, x3, x4, x5]
theorem fg_EV {l : List Nat} (h : okb l) : ∀ n i, i + n = 8 → tx_fg (EV l) n i = (decide (0 < l.length) && zf_g (l.map nI) (l.length - i) i) := by
  intro n
  induction n with
  | zero =>
    intro i hi
    have h8 := h.1
    rw [tx_fg, show l.length - i = 0 by omega, zf_g, Bool.and_true]
    have := EV_0 h
    cases l with
    | nil => simp [this.mpr rfl]
    | cons b l => simp; exact fun e => List.cons_ne_nil b l (this.mp e)
  | succ n ih =>
    intro i hi
    rw [tx_fg, ch_EV h (by omega)]
    by_cases q : i < l.length
    · have hz : ¬ nI (l.getD i 0) = 0 := fun e => by have := h.gz.mp ((nI_z (h.g i)).mp e); omega
      rw [show l.length - i = l.length - (i + 1) + 1 by omega, zf_g, zok_EV h q]
      cases hp : tx_pl (nI (l.getD i 0)) with
      | true => rw [if_pos (Or.inr (Or.inl rfl)), ih _ (by omega), Bool.true_or, Bool.true_and]
      | false =>
        cases hj : tx_jk (EV l) (nI i) with
        | true => rw [if_pos (Or.inr (Or.inr rfl)), ih _ (by omega)]; rfl
        | false => rw [if_neg (fun e => e.elim hz (fun e => e.elim (fun e => by cases e) (fun e => by cases e)))]; simp
    · have hg : l.getD i 0 = 0 := h.gz.mpr (by omega)
      rw [hg, if_pos (Or.inl (show nI 0 = 0 from rfl)), ih _ (by omega), show l.length - i = 0 by omega, show l.length - (i + 1) = 0 by omega, zf_g, zf_g]
theorem zf_eq_ (x : Int64) : zf_ (tz_bs x) = tx_fg (tx_read x) 8 0 := by
  rw [← EV_nz, fg_EV (nz_ok x) 8 0 rfl, tz_bs_nz]
  unfold zf_
  rw [List.length_map]; rfl
def cg : Nat → List Int32 → List Int32 → Bool
  | 0, _, r => decide (r = [])
  | _ + 1, [], r => decide (r = [])
  | n + 1, a :: w, r => if a = 35 ∨ (r = [] ∧ a :: w = [47, 35]) then true else if a = 43 ∧ ¬ r.headD 0 = 0 ∧ ¬ r.headD 0 = 47 then cg n (a :: w) r.tail else if a = 43 then cg n w r else if a = r.headD 0 then cg n w r.tail else false
theorem of_k {a b : Nat} (ha : a < 256) (hb : b < 256) : Int64.ofNat a = Int64.ofNat b ↔ a = b := by
  constructor
  · intro h
    have e := congrArg nt h
    rw [nt_of (by omega), nt_of (by omega)] at e; exact e
  · intro h; rw [h]
theorem EV_inj {a b : List Nat} (ha : okb a) (hb : okb b) : EV a = EV b ↔ a = b :=
  ⟨fun h => by rw [← nz_EV ha, ← nz_EV hb, h], fun h => by rw [h]⟩
theorem map_inj {a b : List Nat} (ha : okb a) (hb : okb b) : a.map nI = b.map nI ↔ a = b := by
  constructor
  · intro h
    apply List.ext_getElem?
    intro i
    have := congrArg (fun l => l[i]?) h
    simp only [List.getElem?_map] at this
    cases e1 : a[i]? with
    | none => rw [e1] at this; cases e2 : b[i]? with
      | none => rfl
      | some y => rw [e2] at this; cases this
    | some x => rw [e1] at this; cases e2 : b[i]? with
      | none => rw [e2] at this; cases this
      | some y =>
        rw [e2] at this
        have := Option.some.inj this
        rw [(nI_k (ha.2 x (List.mem_of_getElem? e1)).1 (hb.2 y (List.mem_of_getElem? e2)).1).mp this]
  · intro h; rw [h]
theorem go_cg : ∀ (n : Nat) (w r : List Nat), okb w → okb r → tc_go n (EV w) (EV r) = cg n (w.map nI) (r.map nI) := by
  intro n
  induction n with
  | zero =>
    intro w r hw hr
    rw [tc_go, cg]
    exact decide_eq_decide.mpr ((EV_0 hr).trans (by rw [List.map_eq_nil_iff]))
  | succ n ih =>
    intro w r hw hr
    have er : EV r = 0 ↔ r.map nI = [] := (EV_0 hr).trans (by rw [List.map_eq_nil_iff])
    cases w with
    | nil =>
      rw [tc_go, if_pos ((EV_0 hw).mpr rfl)]
      exact decide_eq_decide.mpr er
    | cons a w =>
      have ha := hw.2 a List.mem_cons_self
      have et : tx_top (EV (a :: w)) = Int64.ofNat a := top_EV hw
      have eh : ∀ k, k < 256 → (Int64.ofNat (r.getD 0 0) = Int64.ofNat k ↔ (r.map nI).headD 0 = nI k) := by
        intro k hk
        rw [of_k (hr.g 0) hk, ← nI_k (hr.g 0) hk]
        cases r with
        | nil => exact Iff.rfl
        | cons b r => exact Iff.rfl
      have tt : tx_sh (EV r) = EV r.tail := by
        cases r with
        | nil => show tx_sh (EV []) = EV []; decide +kernel
        | cons b r => exact sh_EV hr
      have htail : okb r.tail := by
        cases r with
        | nil => exact hr
        | cons b r => exact hr.t
      have k35 : Int64.ofNat a = 35 ↔ nI a = 35 := (of_k ha.1 (show 35 < 256 by decide)).trans (nI_k ha.1 (show 35 < 256 by decide)).symm
      have k43 : Int64.ofNat a = 43 ↔ nI a = 43 := (of_k ha.1 (show 43 < 256 by decide)).trans (nI_k ha.1 (show 43 < 256 by decide)).symm
      have kW : EV (a :: w) = 3396558543967485952 ↔ nI a :: w.map nI = [47, 35] := by
        have o2 : okb [47, 35] := ⟨by decide, by decide⟩
        have c : (3396558543967485952 : Int64) = EV [47, 35] := by decide +kernel
        rw [c]
        exact (EV_inj hw o2).trans (map_inj hw o2).symm
      have h0 : tx_top (EV r) = 0 ↔ (r.map nI).headD 0 = 0 := by rw [top_EV hr]; exact eh 0 (by decide)
      have h47 : tx_top (EV r) = 47 ↔ (r.map nI).headD 0 = 47 := by rw [top_EV hr]; exact eh 47 (by decide)
      have hab : Int64.ofNat a = tx_top (EV r) ↔ nI a = (r.map nI).headD 0 := by
        rw [top_EV hr]
        have := eh a ha.1
        exact ⟨fun q => (this.mp q.symm).symm, fun q => (this.mpr q.symm).symm⟩
      rw [tc_go, if_neg (fun e => List.cons_ne_nil a w ((EV_0 hw).mp e)), et, List.map_cons, cg]
      simp only [k35, er, kW, k43, h0, h47, hab, tt, sh_EV hw, ih _ _ hw htail, ih _ _ hw.t hr, ih _ _ hw.t htail, List.map_cons, List.map_tail]
def bg (l : List Int32) : Prop := l = [] ∨ ∃ r, l = 47 :: r
theorem cg_nil (n : Nat) (r : List Int32) : cg n [] r = decide (r = []) := by cases n <;> rfl
theorem cg_lit : ∀ (u v w r : List Int32) (n : Nat), (∀ a, a ∈ u → ¬ a = 35 ∧ ¬ a = 43 ∧ ¬ a = 47 ∧ ¬ a = 0) → (∀ b, b ∈ v → ¬ b = 47 ∧ ¬ b = 0) → bg w → bg r → (u ++ w).length + (v ++ r).length ≤ n → cg n (u ++ w) (v ++ r) = if u = v then cg (n - u.length) w r else false := by
  intro u
  induction u with
  | nil =>
    intro v w r n _ hv hw hr hn
    cases v with
    | nil => rw [if_pos rfl]; rfl
    | cons b v =>
      rw [if_neg (fun q => by cases q)]
      have hb := hv b List.mem_cons_self
      rcases hw with rfl | ⟨w2, rfl⟩
      · rw [List.append_nil, cg_nil]; rfl
      · cases n with
        | zero => simp at hn
        | succ n =>
          show cg (n + 1) (47 :: w2) (b :: (v ++ r)) = false
          rw [cg, if_neg (fun q => q.elim (by decide) (fun q => by cases q.1)), if_neg (fun q => by cases q.1), if_neg (by decide), if_neg (fun q => hb.1 q.symm)]
  | cons a u ih =>
    intro v w r n hu hv hw hr hn
    have ha := hu a List.mem_cons_self
    cases n with
    | zero => simp at hn
    | succ n =>
      have c1 : ¬ (a = 35 ∨ (v ++ r = [] ∧ a :: (u ++ w) = [47, 35])) := fun q => q.elim ha.1 (fun q => ha.2.2.1 (by have := q.2; simp only [List.cons.injEq] at this; exact this.1))
      cases v with
      | nil =>
        rw [if_neg (fun q => by cases q), List.cons_append, cg, if_neg c1, if_neg (fun q => ha.2.1 q.1), if_neg ha.2.1]
        rcases hr with rfl | ⟨r2, rfl⟩
        · exact if_neg ha.2.2.2
        · exact if_neg ha.2.2.1
      | cons b v =>
        rw [List.cons_append, cg, if_neg c1, if_neg (fun q => ha.2.1 q.1), if_neg ha.2.1]
        show (if a = b then cg n (u ++ w) (v ++ r) else false) = _
        by_cases e : a = b
        · rw [if_pos e]
          rw [ih v w r n (fun x hx => hu x (List.mem_cons_of_mem _ hx)) (fun x hx => hv x (List.mem_cons_of_mem _ hx)) hw hr (by simp at hn ⊢; omega)]
          rw [List.length_cons, show n + 1 - (u.length + 1) = n - u.length by omega]
          by_cases e2 : u = v
          · rw [if_pos e2, if_pos (by rw [e, e2])]
          · rw [if_neg e2, if_neg (fun q => e2 (by injection q))]
        · rw [if_neg e, if_neg (fun q => e (by injection q))]
theorem cg_any : ∀ (v w r : List Int32) (n : Nat), (∀ b, b ∈ v → ¬ b = 47 ∧ ¬ b = 0) → bg r → w.length + 1 + (v ++ r).length ≤ n → cg n (43 :: w) (v ++ r) = cg (n - v.length - 1) w r := by
  intro v
  induction v with
  | nil =>
    intro w r n _ hr hn
    cases n with
    | zero => omega
    | succ n =>
      rw [List.nil_append, cg, if_neg (fun q => q.elim (by decide) (fun q => by have := q.2; simp only [List.cons.injEq] at this; exact absurd this.1 (by decide))), if_neg (fun q => by rcases hr with rfl | ⟨r2, rfl⟩; exact q.2.1 rfl; exact q.2.2 rfl), if_pos rfl]; rfl
  | cons b v ih =>
    intro w r n hv hr hn
    have hb := hv b List.mem_cons_self
    cases n with
    | zero => simp at hn
    | succ n =>
      rw [List.cons_append, cg, if_neg (fun q => q.elim (by decide) (fun q => by cases q.1)), if_pos ⟨rfl, hb.2, hb.1⟩]
      show cg n (43 :: w) (v ++ r) = _
      rw [ih w r n (fun x hx => hv x (List.mem_cons_of_mem _ hx)) hr (by simp at hn ⊢; omega), List.length_cons, show n + 1 - (v.length + 1) - 1 = n - v.length - 1 by omega]
theorem cg_sep (w r : List Int32) (n : Nat) : cg (n + 1) (47 :: w) (47 :: r) = cg n w r := by
  rw [cg, if_neg (fun q => q.elim (by decide) (fun q => by cases q.1)), if_neg (fun q => absurd q.1 (by decide)), if_neg (by decide)]; exact if_pos rfl
theorem cg_end (w : List Int32) (n : Nat) : cg (n + 1) (47 :: w) [] = decide (w = [35]) := by
  by_cases e : w = [35]
  · rw [cg, if_pos (Or.inr ⟨rfl, by rw [e]⟩), decide_eq_true e]
  · rw [cg, if_neg (fun q => q.elim (by decide) (fun q => e (by have := q.2; simp only [List.cons.injEq] at this; simp [this.2]))), if_neg (fun q => absurd q.1 (by decide)), if_neg (by decide), if_neg (by decide), decide_eq_false e]
-- the level that begins at p
def lv (l : List Int32) (p : Nat) : List Int32 := (l.drop p).takeWhile (fun a => !decide (a = 47))
def rs (l : List Int32) (p : Nat) : List Int32 := (l.drop p).dropWhile (fun a => !decide (a = 47))
theorem lv_rs (l : List Int32) (p : Nat) : lv l p ++ rs l p = l.drop p := List.takeWhile_append_dropWhile
theorem rs_bg (l : List Int32) (p : Nat) : bg (rs l p) := by
  cases e : rs l p with
  | nil => exact Or.inl rfl
  | cons b r =>
    have := List.head_dropWhile_not (p := fun a => !decide (a = (47 : Int32))) (l := l.drop p) (w := by show rs l p ≠ []; rw [e]; exact List.cons_ne_nil _ _)
    have h2 : (rs l p).head (by rw [e]; exact List.cons_ne_nil _ _) = b := by simp only [e, List.head_cons]
    right
    refine ⟨r, ?_⟩
    have h3 : b = 47 := by
      rw [← h2]
      unfold rs
      simpa using this
    rw [h3]
theorem zle_lv (l : List Int32) : ∀ n e, e + n = l.length → zle l n e = e + (lv l e).length := by
  intro n
  induction n with
  | zero =>
    intro e h
    rw [zle]; unfold lv
    rw [List.drop_eq_nil_of_le (by omega)]; rfl
  | succ n ih =>
    intro e h
    have he : e < l.length := by omega
    have hd : l.drop e = l[e] :: l.drop (e + 1) := List.drop_eq_getElem_cons he
    rw [zle, List.getElem?_eq_getElem he]
    by_cases q : l[e] = 47
    · rw [if_pos (by rw [q])]
      unfold lv
      rw [hd, List.takeWhile_cons, if_neg (by simp [q])]; rfl
    · rw [if_neg (fun w => q (Option.some.inj w)), ih _ (by omega)]
      have : lv l e = l[e] :: lv l (e + 1) := by
        unfold lv
        rw [hd, List.takeWhile_cons, if_pos (by simp [q])]
      rw [this, List.length_cons]; omega
theorem zf_e_lv (l : List Int32) {p : Nat} (hp : p ≤ l.length) : zf_e l p = p + (lv l p).length := zle_lv l _ _ (by omega)
theorem lvx_at (l : List Int32) (p j : Nat) (h : j < (lv l p).length) : l[p + j]? = (lv l p)[j]? := by
  have := congrArg (fun x => x[j]?) (lv_rs l p)
  simp only [List.getElem?_append_left h, List.getElem?_drop] at this
  exact this.symm
theorem lvx_len (l : List Int32) (p : Nat) : (lv l p).length + (rs l p).length = l.length - p := by
  have := congrArg List.length (lv_rs l p)
  rw [List.length_append, List.length_drop] at this; exact this
theorem zf_eq_all (A B : List Int32) (p q : Nat) : ∀ n k sm, zf_eq A B p q n k sm = (sm && decide (∀ j, j < n → A[p + (k + j)]? = B[q + (k + j)]?)) := by
  intro n
  induction n with
  | zero => intro k sm; rw [zf_eq, decide_eq_true (fun j h => absurd h (Nat.not_lt_zero _)), Bool.and_true]
  | succ n ih =>
    intro k sm
    rw [zf_eq]
    cases sm with
    | false => rw [if_neg (by decide), Bool.false_and]
    | true =>
      rw [if_pos rfl, ih, Bool.true_and]
      by_cases e : A[p + k]? = B[q + k]?
      · rw [decide_eq_true e, Bool.true_and]
        apply decide_eq_decide.mpr
        constructor
        · intro h j hj
          cases j with
          | zero => exact e
          | succ j => have := h j (by omega); rw [show k + (j + 1) = k + 1 + j by omega]; exact this
        · intro h j hj
          have := h (j + 1) (by omega)
          rw [show k + (j + 1) = k + 1 + j by omega] at this; exact this
      · rw [decide_eq_false e, Bool.false_and]
        symm
        exact decide_eq_false (fun h => e (h 0 (by omega)))
theorem zf_sm_lv (A B : List Int32) {p q : Nat} (hp : p ≤ A.length) (hq : q ≤ B.length) : zf_sm A B p q = decide (lv A p = lv B q) := by
  unfold zf_sm
  rw [zf_e_lv A hp, zf_e_lv B hq, zf_eq_all, show p + (lv A p).length - p = (lv A p).length by omega, show q + (lv B q).length - q = (lv B q).length by omega]
  by_cases e : (lv A p).length = (lv B q).length
  · rw [decide_eq_true e, Bool.true_and]
    apply decide_eq_decide.mpr
    constructor
    · intro h
      apply List.ext_getElem?
      intro j
      by_cases hj : j < (lv A p).length
      · have := h j hj
        rw [Nat.zero_add, lvx_at A p j hj, lvx_at B q j (by omega)] at this
        exact this
      · rw [List.getElem?_eq_none (by omega), List.getElem?_eq_none (by omega)]
    · intro h j hj
      rw [Nat.zero_add, lvx_at A p j hj, lvx_at B q j (by omega), h]
  · rw [decide_eq_false e, Bool.false_and]
    symm
    exact decide_eq_false (fun h => e (by rw [h]))
-- a good filter: every level is +, # at the end, or plain
def gf (A : List Int32) : Prop := (∀ p, p ≤ A.length → (p = 0 ∨ A[p - 1]? = some 47) → ¬ A[p]? = some 35 → lv A p = [43] ∨ ∀ a, a ∈ lv A p → ¬ a = 35 ∧ ¬ a = 43) ∧ (∀ i, A[i]? = some 35 → i + 1 = A.length) ∧ (∀ a, a ∈ A → ¬ a = 0)
theorem lvx_mem (l : List Int32) (p : Nat) (a : Int32) (h : a ∈ lv l p) : ¬ a = 47 ∧ a ∈ l := by
  refine ⟨?_, List.mem_of_mem_drop ((lv_rs l p) ▸ List.mem_append_left _ h)⟩
  unfold lv at h
  have := List.all_eq_true.mp (List.all_takeWhile (p := fun a => !decide (a = (47 : Int32))) (l := l.drop p)) a h
  simpa using this
theorem rs_drop (l : List Int32) (p : Nat) : rs l p = l.drop (p + (lv l p).length) := by
  have := congrArg (List.drop (lv l p).length) (lv_rs l p)
  rw [List.drop_left, List.drop_drop] at this
  exact this
theorem zf_any_lv (A : List Int32) {p : Nat} (hp : p ≤ A.length) : zf_any A p = decide (lv A p = [43]) := by
  unfold zf_any
  rw [zf_e_lv A hp]
  apply decide_eq_decide.mpr
  constructor
  · rintro ⟨h1, h2⟩
    have h1 : (lv A p).length = 1 := by omega
    have := lvx_at A p 0 (by omega)
    rw [Nat.add_zero, h2] at this
    match hL : lv A p with
    | [] => rw [hL] at h1; simp at h1
    | [x] => rw [hL] at this; simp at this; rw [this]
    | x :: y :: r => rw [hL] at h1; simp at h1
  · intro h
    have h1 : (lv A p).length = 1 := by rw [h]; rfl
    refine ⟨by omega, ?_⟩
    have := lvx_at A p 0 (by omega)
    rw [Nat.add_zero, h] at this
    exact this
theorem lp_cg {A B : List Int32} (gA : gf A) (gB : ∀ b, b ∈ B → ¬ b = 0) : ∀ (n p q m : Nat), p ≤ A.length → q ≤ B.length → (p = 0 ∨ A[p - 1]? = some 47) → A.length + 1 ≤ n + p → (A.drop p).length + (B.drop q).length ≤ m → zf_lp A B n p q = cg m (A.drop p) (B.drop q) := by
  intro n
  induction n with
  | zero => intro p q m hp hq _ hn; omega
  | succ n ih =>
    intro p q m hp hq hs hn hm
    rw [zf_lp]
    by_cases c1 : A[p]? = some 35
    · rw [if_pos c1]
      have hl := (List.getElem?_eq_some_iff.mp c1).1
      have hd : A.drop p = 35 :: A.drop (p + 1) := by
        rw [List.drop_eq_getElem_cons hl, (List.getElem?_eq_some_iff.mp c1).2]
      rw [hd] at hm ⊢
      cases m with
      | zero => simp at hm
      | succ m => rw [cg, if_pos (Or.inl rfl)]
    · rw [if_neg c1, if_neg (by omega), zf_any_lv A hp, zf_sm_lv A B hp hq, zf_e_lv A hp, zf_e_lv B hq]
      have eA := lv_rs A p
      have eB := lv_rs B q
      have LA := lvx_len A p
      have LB := lvx_len B q
      have rA := rs_drop A p
      have rB := rs_drop B q
      have hv : ∀ b, b ∈ lv B q → ¬ b = 47 ∧ ¬ b = 0 := fun b hb => ⟨(lvx_mem B q b hb).1, gB b (lvx_mem B q b hb).2⟩
      have hmA : (lv A p ++ rs A p).length + (lv B q ++ rs B q).length ≤ m := by rw [eA, eB]; exact hm
      -- what follows a level
      have tail : ∀ k, (rs A p).length + (rs B q).length ≤ k → (if p + (lv A p).length = A.length then decide (q + (lv B q).length = B.length) else zf_lp A B n (p + (lv A p).length + 1) (q + (lv B q).length + 1)) = cg k (rs A p) (rs B q) := by
        intro k hk
        by_cases e : p + (lv A p).length = A.length
        · rw [if_pos e]
          have : rs A p = [] := List.length_eq_zero_iff.mp (by omega)
          rw [this, cg_nil]
          apply decide_eq_decide.mpr
          rw [← List.length_eq_zero_iff]
          omega
        · rw [if_neg e]
          rcases rs_bg A p with h0 | ⟨w, hw⟩
          · rw [h0] at LA; simp at LA; omega
          · have hwd : A.drop (p + (lv A p).length + 1) = w := by
              have := congrArg (List.drop 1) rA
              rw [hw, List.drop_drop] at this
              exact this.symm
            have hsep : A[p + (lv A p).length + 1 - 1]? = some 47 := by
              have := congrArg (fun x => x[0]?) rA
              rw [hw] at this
              simp only [List.getElem?_drop] at this
              exact this.symm
            rw [hw] at hk LA ⊢
            rw [List.length_cons] at LA hk
            rcases rs_bg B q with h0 | ⟨r, hr⟩
            · rw [h0] at LB hk ⊢
              cases k with
              | zero => omega
              | succ k =>
                rw [cg_end]
                rw [List.length_nil] at LB
                cases n with
                | zero => omega
                | succ n =>
                  rw [zf_lp]
                  by_cases c2 : A[p + (lv A p).length + 1]? = some 35
                  · rw [if_pos c2]
                    symm
                    have hl := gA.2.1 _ c2
                    apply decide_eq_true
                    have hw1 : w.length = 1 := by rw [← hwd, List.length_drop]; omega
                    have h35 : w[0]? = some 35 := by rw [← hwd, List.getElem?_drop]; exact c2
                    match w, hw1, h35 with
                    | [x], _, h => simp at h; rw [h]
                  · rw [if_neg c2, if_pos (by omega)]
                    symm
                    apply decide_eq_false
                    intro h
                    apply c2
                    have := congrArg (fun x => x[0]?) hwd
                    rw [h] at this
                    simp only [List.getElem?_drop] at this
                    exact this
            · have hrd : B.drop (q + (lv B q).length + 1) = r := by
                have := congrArg (List.drop 1) rB
                rw [hr, List.drop_drop] at this
                exact this.symm
              rw [hr] at hk LB ⊢
              rw [List.length_cons] at LB hk
              cases k with
              | zero => omega
              | succ k =>
                rw [cg_sep, ih (p + (lv A p).length + 1) (q + (lv B q).length + 1) k (by omega) (by omega) (Or.inr hsep) (by omega) (by rw [hwd, hrd]; omega), hwd, hrd]
      rcases gA.1 p hp hs c1 with ha | hl
      · rw [if_neg (fun q => by rw [decide_eq_true ha] at q; cases q.1), ← eA, ← eB]
        have h1 : (lv A p).length = 1 := by rw [ha]; rfl
        have : cg m (lv A p ++ rs A p) (lv B q ++ rs B q) = cg (m - (lv B q).length - 1) (rs A p) (rs B q) := by
          rw [ha]
          exact cg_any _ _ _ _ hv (rs_bg B q) (by rw [ha] at hmA; simp at hmA ⊢; omega)
        rw [this]
        exact tail _ (by simp at hmA; omega)
      · have hna : ¬ lv A p = [43] := fun h => (hl 43 (by rw [h]; exact List.mem_cons_self)).2 rfl
        rw [← eA, ← eB, cg_lit _ _ _ _ _ (fun a ha => ⟨(hl a ha).1, (hl a ha).2, (lvx_mem A p a ha).1, gA.2.2 a (lvx_mem A p a ha).2⟩) hv (rs_bg A p) (rs_bg B q) hmA, decide_eq_false hna]
        by_cases e : lv A p = lv B q
        · rw [if_neg (fun h => by rw [decide_eq_true e] at h; cases h.2), if_pos e]
          exact tail _ (by simp at hmA; omega)
        · rw [if_pos ⟨rfl, decide_eq_false e⟩, if_neg e]
theorem zfg_all (l : List Int32) : ∀ n i, zf_g l n i = true → ∀ j, i ≤ j → j < i + n → zf_ok l j = true := by
  intro n
  induction n with
  | zero => intro i _ j h1 h2; omega
  | succ n ih =>
    intro i h j h1 h2
    rw [zf_g, Bool.and_eq_true] at h
    by_cases e : j = i
    · rw [e]; exact h.1
    · exact ih (i + 1) h.2 j (by omega) (by omega)
theorem zf_gf {A : List Int32} (h : zf_ A = true) (h0 : ∀ a, a ∈ A → ¬ a = 0) : gf A := by
  unfold zf_ at h
  rw [Bool.and_eq_true] at h
  have ok := zfg_all A _ _ h.2
  have inv : ∀ i b, A[i]? = some b → ¬ tx_pl b = true → ((i = 0 ∨ A[i - 1]? = some 47) ∧ (i = A.length - 1 ∨ A[i + 1]? = some 47)) ∧ (b = 43 ∨ (b = 35 ∧ i = A.length - 1)) := by
    intro i b hb hp
    have hl := (List.getElem?_eq_some_iff.mp hb).1
    have := ok i (Nat.zero_le _) (by omega)
    unfold zf_ok at this
    rw [hb] at this
    have hp2 : tx_pl b = false := by cases e : tx_pl b with
      | true => exact absurd e hp
      | false => rfl
    simp only [hp2, Bool.false_or, Bool.and_eq_true, decide_eq_true_eq, Bool.or_eq_true] at this
    exact this
  have np : ∀ b : Int32, b = 35 ∨ b = 43 → ¬ tx_pl b = true := by
    rintro b (rfl | rfl) <;> decide
  refine ⟨?_, ?_, h0⟩
  · intro p hp hs h35
    by_cases ha : ∀ a, a ∈ lv A p → ¬ a = 35 ∧ ¬ a = 43
    · exact Or.inr ha
    · left
      have : ∃ a, a ∈ lv A p ∧ (a = 35 ∨ a = 43) := by
        apply Classical.byContradiction
        intro hn
        apply ha
        intro a hm
        exact ⟨fun e => hn ⟨a, hm, Or.inl e⟩, fun e => hn ⟨a, hm, Or.inr e⟩⟩
      obtain ⟨a, hm, e⟩ := this
      obtain ⟨j, hj, hja⟩ := List.mem_iff_getElem.mp hm
      have hat : A[p + j]? = some a := by rw [lvx_at A p j hj, List.getElem?_eq_getElem hj, hja]
      have hi := inv _ _ hat (np a e)
      have hj0 : j = 0 := by
        apply Classical.byContradiction
        intro hj0
        rcases hi.1.1 with h | h
        · omega
        · have h2 := lvx_at A p (j - 1) (by omega)
          rw [show p + (j - 1) = p + j - 1 by omega, h] at h2
          exact (lvx_mem A p 47 (List.mem_of_getElem? h2.symm)).1 rfl
      subst hj0
      rw [Nat.add_zero] at hat hi
      have hlen : (lv A p).length = 1 := by
        apply Classical.byContradiction
        intro hn
        have h1 : 1 < (lv A p).length := by omega
        have h2 := lvx_at A p 1 h1
        have hl := lvx_len A p
        rcases hi.1.2 with h | h
        · omega
        · rw [h] at h2
          exact (lvx_mem A p 47 (List.mem_of_getElem? h2.symm)).1 rfl
      have a43 : a = 43 := e.elim (fun e => absurd (by rw [hat, e]) h35) id
      match hL : lv A p, hlen with
      | [x], _ =>
        have := lvx_at A p 0 (by rw [hL]; exact Nat.zero_lt_one)
        rw [Nat.add_zero, hat, hL] at this
        simp at this
        rw [← this, a43]
  · intro i hi
    have hl := (List.getElem?_eq_some_iff.mp hi).1
    have := inv _ _ hi (by decide)
    rcases this.2 with e | ⟨_, e⟩
    · exact absurd e (by decide)
    · omega
-- a good topic, a good filter, as the class holds them
def tpc (x : Int64) : Prop := tx_read x = x ∧ tx_tg x 8 0 = true
def ftr (x : Int64) : Prop := tx_read x = x ∧ tx_fg x 8 0 = true
theorem map_n0 (x : Int64) : ∀ a, a ∈ (nz x).map nI → ¬ a = 0 := by
  intro a ha
  obtain ⟨b, hb, rfl⟩ := List.mem_map.mp ha
  have := (nz_ok x).2 b hb
  exact fun e => this.2 ((nI_z this.1).mp e)
theorem fit_cov {f t : Int64} (hf : ftr f) (ht : tpc t) : zfit (tz_bs (tz_pl f)) (tz_bs (tz_pl t)) = tc_cov f t := by
  rw [bs_pl, bs_pl]
  have gA : gf (tz_bs f) := zf_gf (by rw [zf_eq_, hf.1]; exact hf.2) (by rw [tz_bs_nz]; exact map_n0 f)
  have gB : ∀ b, b ∈ tz_bs t → ¬ b = 0 := by rw [tz_bs_nz]; exact map_n0 t
  have hA := tz_bs_len f
  have hB := tz_bs_len t
  have ef : EV (nz f) = f := by rw [EV_nz, hf.1]
  have et : EV (nz t) = t := by rw [EV_nz, ht.1]
  unfold zfit tc_cov
  have hd : ∀ (x : Int64) (k : Nat), 0 < k → k < 256 → ((tz_bs x)[0]? = some (nI k) ↔ tx_top (EV (nz x)) = Int64.ofNat k) := by
    intro x k hk0 hk
    rw [top_EV (nz_ok x), of_k ((nz_ok x).g 0) hk, tz_bs_nz, List.getElem?_map, List.getD_eq_getElem?_getD]
    cases e : (nz x)[0]? with
    | none => simp; omega
    | some b => simp; exact nI_k ((nz_ok x).2 b (List.mem_of_getElem? e)).1 hk
  have h43 : (tz_bs f)[0]? = some 43 ↔ tx_top f = 43 := by have := hd f 43 (by decide) (by decide); rw [ef] at this; exact this
  have h35 : (tz_bs f)[0]? = some 35 ↔ tx_top f = 35 := by have := hd f 35 (by decide) (by decide); rw [ef] at this; exact this
  have h36 : (tz_bs t)[0]? = some 36 ↔ tx_top t = 36 := by have := hd t 36 (by decide) (by decide); rw [et] at this; exact this
  have go : zf_lp (tz_bs f) (tz_bs t) 10 0 0 = tc_go 16 f t := by
    have e := go_cg 16 (nz f) (nz t) (nz_ok f) (nz_ok t)
    rw [ef, et, ← tz_bs_nz, ← tz_bs_nz] at e
    rw [e]
    exact lp_cg gA gB 10 0 0 16 (Nat.zero_le _) (Nat.zero_le _) (Or.inl rfl) (by omega) (by rw [List.drop_zero, List.drop_zero]; omega)
  simp only [h43, h35, h36, go]
theorem tpc_len {x : Int64} (h : tpc x) : 0 < (tz_bs (tz_pl x)).length := by
  have := zt_eq x
  rw [h.1, h.2] at this
  unfold zt_ at this
  rw [Bool.and_eq_true, decide_eq_true_eq] at this
  rw [bs_pl]; exact this.1
theorem ftr_len {x : Int64} (h : ftr x) : 0 < (tz_bs (tz_pl x)).length := by
  have := zf_eq_ x
  rw [h.1, h.2] at this
  unfold zf_ at this
  rw [Bool.and_eq_true, decide_eq_true_eq] at this
  rw [bs_pl]; exact this.1
