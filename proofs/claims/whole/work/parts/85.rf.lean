/-! The reference's object and arrays as they lie (laid by wip/whole/p85.py). -/
-- int and boolean arrays by field, long arrays by field, ints and booleans by field, longs by field
abbrev rf_S : Type := (Nat → Nat → Int32) × (Nat → Nat → Int64) × (Nat → Int32) × (Nat → Int64)
def rf_k (f : Nat) : Nat := ([0, 0, 0, 0, 0, 2, 2, 1, 0, 0, 1, 0, 3, 3, 3, 3, 5, 4, 3, 3, 4, 3, 0, 0, 1, 0, 0, 2, 0, 0, 2, 0, 0, 1, 0, 2, 2, 0, 0, 0, 1, 0, 2, 0, 1, 0, 2, 0, 0, 1, 0, 0, 2, 0, 0, 2, 0, 0, 3, 1, 0, 0, 3, 0, 0][f]?).getD 9
def rf_n (f : Nat) : Nat := ([6, 192, 192, 192, 192, 192, 192, 192, 192, 192, 192, 192, 0, 0, 0, 0, 0, 0, 0, 0, 0, 0, 3, 3, 12, 12, 12, 12, 12, 12, 27, 3, 300, 3, 3, 3, 3, 3, 3, 3, 3, 3, 3, 3, 12, 12, 12, 3, 3, 24, 24, 24, 24, 24, 24, 27, 3, 3, 0, 4, 4, 4, 0, 8, 8][f]?).getD 0
def rf_r (f : Nat) : Nat := if f < 12 then f else if f < 58 then f - 10 else if f < 62 then f - 11 else f - 12
def rf_F (m0 : Nat) (t : rf_S) : List Value := [.ref (m0 + 1), .ref (m0 + 2), .ref (m0 + 3), .ref (m0 + 4), .ref (m0 + 5), .ref (m0 + 6), .ref (m0 + 7), .ref (m0 + 8), .ref (m0 + 9), .ref (m0 + 10), .ref (m0 + 11), .ref (m0 + 12), .int (t.2.2.1 12), .int (t.2.2.1 13), .int (t.2.2.1 14), .int (t.2.2.1 15), .int (t.2.2.1 16), .long (t.2.2.2 17), .int (t.2.2.1 18), .int (t.2.2.1 19), .long (t.2.2.2 20), .int (t.2.2.1 21), .ref (m0 + 13), .ref (m0 + 14), .ref (m0 + 15), .ref (m0 + 16), .ref (m0 + 17), .ref (m0 + 18), .ref (m0 + 19), .ref (m0 + 20), .ref (m0 + 21), .ref (m0 + 22), .ref (m0 + 23), .ref (m0 + 24), .ref (m0 + 25), .ref (m0 + 26), .ref (m0 + 27), .ref (m0 + 28), .ref (m0 + 29), .ref (m0 + 30), .ref (m0 + 31), .ref (m0 + 32), .ref (m0 + 33), .ref (m0 + 34), .ref (m0 + 35), .ref (m0 + 36), .ref (m0 + 37), .ref (m0 + 38), .ref (m0 + 39), .ref (m0 + 40), .ref (m0 + 41), .ref (m0 + 42), .ref (m0 + 43), .ref (m0 + 44), .ref (m0 + 45), .ref (m0 + 46), .ref (m0 + 47), .ref (m0 + 48), .int (t.2.2.1 58), .ref (m0 + 49), .ref (m0 + 50), .ref (m0 + 51), .int (t.2.2.1 62), .ref (m0 + 52), .ref (m0 + 53)]
def uI (t : rf_S) (f i : Nat) (v : Int32) : rf_S := (fun g => if g = f then va_up (t.1 f) i v else t.1 g, t.2)
def uL (t : rf_S) (f i : Nat) (v : Int64) : rf_S := (t.1, fun g => if g = f then va_up (t.2.1 f) i v else t.2.1 g, t.2.2)
def uS (t : rf_S) (f : Nat) (v : Int32) : rf_S := (t.1, t.2.1, va_up t.2.2.1 f v, t.2.2.2)
def uK (t : rf_S) (f : Nat) (v : Int64) : rf_S := (t.1, t.2.1, t.2.2.1, va_up t.2.2.2 f v)
def rf_P (z : Nat × Nat) (m0 : Nat) (t : rf_S) (h : ev_H) : Prop := hp_ok z h ∧ z.1 < m0 ∧ m0 + 54 ≤ h.1 ∧ h.2.2 m0 = some (.inr (12, rf_F m0 t)) ∧ (∀ f, rf_k f = 0 → h.2.2 (m0 + (1 + rf_r f)) = some (.inl (0, rf_n f, .inl (t.1 f)))) ∧ (∀ f, rf_k f = 1 → h.2.2 (m0 + (1 + rf_r f)) = some (.inl (1, rf_n f, .inr (.inl (t.2.1 f))))) ∧ (∀ f, rf_k f = 2 → h.2.2 (m0 + (1 + rf_r f)) = some (.inl (2, rf_n f, .inl (t.1 f))))
-- what the reference's methods leave alone
def rf_E (m0 : Nat) (h h' : ev_H) : Prop := h'.1 = h.1 ∧ h'.2.1 = h.2.1 ∧ ∀ b, (b < m0 ∨ m0 + 54 ≤ b) → h'.2.2 b = h.2.2 b
theorem rf_E.rf {m0 : Nat} {h : ev_H} : rf_E m0 h h := ⟨rfl, rfl, fun _ _ => rfl⟩
theorem rf_E.tr {m0 : Nat} {h h1 h2 : ev_H} (a : rf_E m0 h h1) (b : rf_E m0 h1 h2) : rf_E m0 h h2 := ⟨b.1.trans a.1, b.2.1.trans a.2.1, fun x hx => (b.2.2 x hx).trans (a.2.2 x hx)⟩
theorem rf_kl : ∀ f, rf_k f = 0 ∨ rf_k f = 1 ∨ rf_k f = 2 → f < 65 := by
  intro f h
  by_cases q : f < 65
  · exact q
  · exfalso
    have : rf_k f = 9 := by
      unfold rf_k
      rw [List.getElem?_eq_none (by simp; omega)]; rfl
    omega
theorem rf_ri : ∀ f, f < 65 → ∀ g, g < 65 → (rf_k f = 0 ∨ rf_k f = 1 ∨ rf_k f = 2) → (rf_k g = 0 ∨ rf_k g = 1 ∨ rf_k g = 2) → rf_r f = rf_r g → f = g := by
  have ka : ∀ f, f < 65 → rf_k f ≤ 2 → f < 12 ∨ (22 ≤ f ∧ f < 58) ∨ (59 ≤ f ∧ f < 62) ∨ 63 ≤ f := by decide +kernel
  intro f hf g hg kf kg e
  have a := ka f hf (by omega)
  have b := ka g hg (by omega)
  unfold rf_r at e
  split at e <;> split at e <;> (try split at e) <;> (try split at e) <;> (try split at e) <;> (try split at e) <;> omega
theorem rf_rl : ∀ f, f < 65 → rf_r f < 53 := by decide +kernel
theorem rf_nl : ∀ f, rf_n f ≤ 300 := by
  intro f
  by_cases q : f < 65
  · revert q; revert f; decide +kernel
  · unfold rf_n
    rw [List.getElem?_eq_none (by simp; omega)]; exact Nat.zero_le _
section RF
variable {z : Nat × Nat} {m0 : Nat} {t : rf_S} {h : ev_H}
theorem rf_P.wI {f : Nat} (P : rf_P z m0 t h) (hf : rf_k f = 0) (j : Nat) (x : Int32) : rf_P z m0 (uI t f j x) (ev_put h (m0 + (1 + rf_r f)) (.inl (0, rf_n f, .inl (va_up (t.1 f) j x)))) ∧ rf_E m0 h (ev_put h (m0 + (1 + rf_r f)) (.inl (0, rf_n f, .inl (va_up (t.1 f) j x)))) := by
  obtain ⟨p1, p2, p3, p4, p5, p6, p7⟩ := P
  have hl := rf_kl f (Or.inl hf)
  have hr := rf_rl f hl
  have ne : ∀ g, (rf_k g = 0 ∨ rf_k g = 1 ∨ rf_k g = 2) → g ≠ f → m0 + (1 + rf_r g) ≠ m0 + (1 + rf_r f) := fun g hg hn e => hn (rf_ri g (rf_kl g hg) f hl hg (Or.inl hf) (by omega))
  refine ⟨⟨p1.put (by omega) (by omega), p2, p3, (ev_put_ne (by omega)).trans p4, fun g hg => ?_, fun g hg => ?_, fun g hg => ?_⟩, rfl, rfl, fun b hb => ev_put_ne (by omega)⟩
  · by_cases e : g = f
    · subst e; rw [ev_put_same]; simp [uI]
    · rw [ev_put_ne (ne g (Or.inl hg) e), p5 g hg]; simp [uI, e]
  · rw [ev_put_ne (ne g (Or.inr (Or.inl hg)) (fun e => by rw [e, hf] at hg; cases hg)), p6 g hg]; rfl
  · have e : g ≠ f := fun e => by rw [e, hf] at hg; cases hg
    rw [ev_put_ne (ne g (Or.inr (Or.inr hg)) e), p7 g hg]; simp [uI, e]
theorem rf_P.wZ {f : Nat} (P : rf_P z m0 t h) (hf : rf_k f = 2) (j : Nat) (x : Int32) : rf_P z m0 (uI t f j x) (ev_put h (m0 + (1 + rf_r f)) (.inl (2, rf_n f, .inl (va_up (t.1 f) j x)))) ∧ rf_E m0 h (ev_put h (m0 + (1 + rf_r f)) (.inl (2, rf_n f, .inl (va_up (t.1 f) j x)))) := by
  obtain ⟨p1, p2, p3, p4, p5, p6, p7⟩ := P
  have hl := rf_kl f (Or.inr (Or.inr hf))
  have hr := rf_rl f hl
  have ne : ∀ g, (rf_k g = 0 ∨ rf_k g = 1 ∨ rf_k g = 2) → g ≠ f → m0 + (1 + rf_r g) ≠ m0 + (1 + rf_r f) := fun g hg hn e => hn (rf_ri g (rf_kl g hg) f hl hg (Or.inr (Or.inr hf)) (by omega))
  refine ⟨⟨p1.put (by omega) (by omega), p2, p3, (ev_put_ne (by omega)).trans p4, fun g hg => ?_, fun g hg => ?_, fun g hg => ?_⟩, rfl, rfl, fun b hb => ev_put_ne (by omega)⟩
  · have e : g ≠ f := fun e => by rw [e, hf] at hg; cases hg
    rw [ev_put_ne (ne g (Or.inl hg) e), p5 g hg]; simp [uI, e]
  · rw [ev_put_ne (ne g (Or.inr (Or.inl hg)) (fun e => by rw [e, hf] at hg; cases hg)), p6 g hg]; rfl
  · by_cases e : g = f
    · subst e; rw [ev_put_same]; simp [uI]
    · rw [ev_put_ne (ne g (Or.inr (Or.inr hg)) e), p7 g hg]; simp [uI, e]
theorem rf_P.wL {f : Nat} (P : rf_P z m0 t h) (hf : rf_k f = 1) (j : Nat) (x : Int64) : rf_P z m0 (uL t f j x) (ev_put h (m0 + (1 + rf_r f)) (.inl (1, rf_n f, .inr (.inl (va_up (t.2.1 f) j x))))) ∧ rf_E m0 h (ev_put h (m0 + (1 + rf_r f)) (.inl (1, rf_n f, .inr (.inl (va_up (t.2.1 f) j x))))) := by
  obtain ⟨p1, p2, p3, p4, p5, p6, p7⟩ := P
  have hl := rf_kl f (Or.inr (Or.inl hf))
  have hr := rf_rl f hl
  have ne : ∀ g, (rf_k g = 0 ∨ rf_k g = 1 ∨ rf_k g = 2) → g ≠ f → m0 + (1 + rf_r g) ≠ m0 + (1 + rf_r f) := fun g hg hn e => hn (rf_ri g (rf_kl g hg) f hl hg (Or.inr (Or.inl hf)) (by omega))
  refine ⟨⟨p1.put (by omega) (by omega), p2, p3, (ev_put_ne (by omega)).trans p4, fun g hg => ?_, fun g hg => ?_, fun g hg => ?_⟩, rfl, rfl, fun b hb => ev_put_ne (by omega)⟩
  · have e : g ≠ f := fun e => by rw [e, hf] at hg; cases hg
    rw [ev_put_ne (ne g (Or.inl hg) e), p5 g hg]; rfl
  · by_cases e : g = f
    · subst e; rw [ev_put_same]; simp [uL]
    · rw [ev_put_ne (ne g (Or.inr (Or.inl hg)) e), p6 g hg]; simp [uL, e]
  · have e : g ≠ f := fun e => by rw [e, hf] at hg; cases hg
    rw [ev_put_ne (ne g (Or.inr (Or.inr hg)) e), p7 g hg]; rfl
theorem rf_P.wO {t' : rf_S} (P : rf_P z m0 t h) (e1 : t'.1 = t.1) (e2 : t'.2.1 = t.2.1) : rf_P z m0 t' (ev_put h m0 (.inr (12, rf_F m0 t'))) ∧ rf_E m0 h (ev_put h m0 (.inr (12, rf_F m0 t'))) := by
  obtain ⟨p1, p2, p3, p4, p5, p6, p7⟩ := P
  refine ⟨⟨p1.put (by omega) (by omega), p2, p3, ev_put_same, fun g hg => ?_, fun g hg => ?_, fun g hg => ?_⟩, rfl, rfl, fun b hb => ev_put_ne (by omega)⟩
  · rw [ev_put_ne (by omega), p5 g hg, e1]
  · rw [ev_put_ne (by omega), p6 g hg, e2]
  · rw [ev_put_ne (by omega), p7 g hg, e1]
end RF
section RW
variable {z : Nat × Nat} {m0 : Nat} {t : rf_S} {h : ev_H} {C : ev_C} {pc nx : Nat} {L : ev_L} {r : List Value} {Q : ev_O → Prop}
theorem ev_W.ri (f : Nat) {j : Nat} {i : Int32} (P : rf_P z m0 t h) (hf : rf_k f = 0) (hi : i = nI j) (hj : j < rf_n f) (hc : ev_find C pc = some (ev_fn (ev_iald nx))) (k : ev_W C (nx, L, .int (t.1 f j) :: r, h) Q) : ev_W C (pc, L, .int i :: .ref (m0 + (1 + rf_r f)) :: r, h) Q := ev_W.ialdN hc (P.2.2.2.2.1 f hf) hi hj (by have := rf_nl f; omega) k
theorem ev_W.rz (f : Nat) {j : Nat} {i : Int32} (P : rf_P z m0 t h) (hf : rf_k f = 2) (hi : i = nI j) (hj : j < rf_n f) (hc : ev_find C pc = some (ev_fn (ev_zald nx))) (k : ev_W C (nx, L, .int (t.1 f j) :: r, h) Q) : ev_W C (pc, L, .int i :: .ref (m0 + (1 + rf_r f)) :: r, h) Q := ev_W.zaldN hc (P.2.2.2.2.2.2 f hf) hi hj (by have := rf_nl f; omega) k
theorem ev_W.rl (f : Nat) {j : Nat} {i : Int32} (P : rf_P z m0 t h) (hf : rf_k f = 1) (hi : i = nI j) (hj : j < rf_n f) (hc : ev_find C pc = some (ev_fn (ev_lald nx))) (k : ev_W C (nx, L, .long (t.2.1 f j) :: r, h) Q) : ev_W C (pc, L, .int i :: .ref (m0 + (1 + rf_r f)) :: r, h) Q := ev_W.laldN hc (P.2.2.2.2.2.1 f hf) hi hj (by have := rf_nl f; omega) k
theorem ev_W.si (f : Nat) {j : Nat} {i x : Int32} (P : rf_P z m0 t h) (hf : rf_k f = 0) (hi : i = nI j) (hj : j < rf_n f) (hc : ev_find C pc = some (ev_fn (ev_iast nx))) (k : ∀ h', rf_P z m0 (uI t f j x) h' → rf_E m0 h h' → ev_W C (nx, L, r, h') Q) : ev_W C (pc, L, .int x :: .int i :: .ref (m0 + (1 + rf_r f)) :: r, h) Q := ev_W.iastN hc (P.2.2.2.2.1 f hf) hi hj (by have := rf_nl f; omega) (k _ (P.wI hf j x).1 (P.wI hf j x).2)
theorem ev_W.sz (f : Nat) {j : Nat} {i x : Int32} (P : rf_P z m0 t h) (hf : rf_k f = 2) (hb : x = 0 ∨ x = 1) (hi : i = nI j) (hj : j < rf_n f) (hc : ev_find C pc = some (ev_fn (ev_zast nx))) (k : ∀ h', rf_P z m0 (uI t f j x) h' → rf_E m0 h h' → ev_W C (nx, L, r, h') Q) : ev_W C (pc, L, .int x :: .int i :: .ref (m0 + (1 + rf_r f)) :: r, h) Q := ev_W.zastN hc (P.2.2.2.2.2.2 f hf) hb hi hj (by have := rf_nl f; omega) (k _ (P.wZ hf j x).1 (P.wZ hf j x).2)
theorem ev_W.sl (f : Nat) {j : Nat} {i : Int32} {x : Int64} (P : rf_P z m0 t h) (hf : rf_k f = 1) (hi : i = nI j) (hj : j < rf_n f) (hc : ev_find C pc = some (ev_fn (ev_last nx))) (k : ∀ h', rf_P z m0 (uL t f j x) h' → rf_E m0 h h' → ev_W C (nx, L, r, h') Q) : ev_W C (pc, L, .long x :: .int i :: .ref (m0 + (1 + rf_r f)) :: r, h) Q := ev_W.lastN hc (P.2.2.2.2.2.1 f hf) hi hj (by have := rf_nl f; omega) (k _ (P.wL hf j x).1 (P.wL hf j x).2)
theorem ev_W.sf12 {v : Int32} (P : rf_P z m0 t h) (hc : ev_find C pc = some (ev_fn (ev_putf 12 12 .int nx))) (k : ∀ h', rf_P z m0 (uS t 12 v) h' → rf_E m0 h h' → ev_W C (nx, L, r, h') Q) : ev_W C (pc, L, .int v :: .ref m0 :: r, h) Q := by
  refine ev_W.putf hc P.2.2.2.1 rfl rfl rfl ?_
  exact k _ (P.wO (t' := uS t 12 v) rfl rfl).1 (P.wO (t' := uS t 12 v) rfl rfl).2
theorem ev_W.sf13 {v : Int32} (P : rf_P z m0 t h) (hc : ev_find C pc = some (ev_fn (ev_putf 12 13 .int nx))) (k : ∀ h', rf_P z m0 (uS t 13 v) h' → rf_E m0 h h' → ev_W C (nx, L, r, h') Q) : ev_W C (pc, L, .int v :: .ref m0 :: r, h) Q := by
  refine ev_W.putf hc P.2.2.2.1 rfl rfl rfl ?_
  exact k _ (P.wO (t' := uS t 13 v) rfl rfl).1 (P.wO (t' := uS t 13 v) rfl rfl).2
theorem ev_W.sf14 {v : Int32} (P : rf_P z m0 t h) (hc : ev_find C pc = some (ev_fn (ev_putf 12 14 .int nx))) (k : ∀ h', rf_P z m0 (uS t 14 v) h' → rf_E m0 h h' → ev_W C (nx, L, r, h') Q) : ev_W C (pc, L, .int v :: .ref m0 :: r, h) Q := by
  refine ev_W.putf hc P.2.2.2.1 rfl rfl rfl ?_
  exact k _ (P.wO (t' := uS t 14 v) rfl rfl).1 (P.wO (t' := uS t 14 v) rfl rfl).2
theorem ev_W.sf15 {v : Int32} (P : rf_P z m0 t h) (hc : ev_find C pc = some (ev_fn (ev_putf 12 15 .int nx))) (k : ∀ h', rf_P z m0 (uS t 15 v) h' → rf_E m0 h h' → ev_W C (nx, L, r, h') Q) : ev_W C (pc, L, .int v :: .ref m0 :: r, h) Q := by
  refine ev_W.putf hc P.2.2.2.1 rfl rfl rfl ?_
  exact k _ (P.wO (t' := uS t 15 v) rfl rfl).1 (P.wO (t' := uS t 15 v) rfl rfl).2
theorem ev_W.sf16 {v : Int32} (P : rf_P z m0 t h) (hb : v = 0 ∨ v = 1) (hc : ev_find C pc = some (ev_fn (ev_putf 12 16 .boolean nx))) (k : ∀ h', rf_P z m0 (uS t 16 v) h' → rf_E m0 h h' → ev_W C (nx, L, r, h') Q) : ev_W C (pc, L, .int v :: .ref m0 :: r, h) Q := by
  refine ev_W.putf hc P.2.2.2.1 rfl (nb_bool hb) (by rcases hb with rfl | rfl <;> rfl) ?_
  exact k _ (P.wO (t' := uS t 16 v) rfl rfl).1 (P.wO (t' := uS t 16 v) rfl rfl).2
theorem ev_W.sf17 {v : Int64} (P : rf_P z m0 t h) (hc : ev_find C pc = some (ev_fn (ev_putf 12 17 .long nx))) (k : ∀ h', rf_P z m0 (uK t 17 v) h' → rf_E m0 h h' → ev_W C (nx, L, r, h') Q) : ev_W C (pc, L, .long v :: .ref m0 :: r, h) Q := by
  refine ev_W.putf hc P.2.2.2.1 rfl rfl rfl ?_
  exact k _ (P.wO (t' := uK t 17 v) rfl rfl).1 (P.wO (t' := uK t 17 v) rfl rfl).2
theorem ev_W.sf18 {v : Int32} (P : rf_P z m0 t h) (hc : ev_find C pc = some (ev_fn (ev_putf 12 18 .int nx))) (k : ∀ h', rf_P z m0 (uS t 18 v) h' → rf_E m0 h h' → ev_W C (nx, L, r, h') Q) : ev_W C (pc, L, .int v :: .ref m0 :: r, h) Q := by
  refine ev_W.putf hc P.2.2.2.1 rfl rfl rfl ?_
  exact k _ (P.wO (t' := uS t 18 v) rfl rfl).1 (P.wO (t' := uS t 18 v) rfl rfl).2
theorem ev_W.sf19 {v : Int32} (P : rf_P z m0 t h) (hc : ev_find C pc = some (ev_fn (ev_putf 12 19 .int nx))) (k : ∀ h', rf_P z m0 (uS t 19 v) h' → rf_E m0 h h' → ev_W C (nx, L, r, h') Q) : ev_W C (pc, L, .int v :: .ref m0 :: r, h) Q := by
  refine ev_W.putf hc P.2.2.2.1 rfl rfl rfl ?_
  exact k _ (P.wO (t' := uS t 19 v) rfl rfl).1 (P.wO (t' := uS t 19 v) rfl rfl).2
theorem ev_W.sf20 {v : Int64} (P : rf_P z m0 t h) (hc : ev_find C pc = some (ev_fn (ev_putf 12 20 .long nx))) (k : ∀ h', rf_P z m0 (uK t 20 v) h' → rf_E m0 h h' → ev_W C (nx, L, r, h') Q) : ev_W C (pc, L, .long v :: .ref m0 :: r, h) Q := by
  refine ev_W.putf hc P.2.2.2.1 rfl rfl rfl ?_
  exact k _ (P.wO (t' := uK t 20 v) rfl rfl).1 (P.wO (t' := uK t 20 v) rfl rfl).2
theorem ev_W.sf21 {v : Int32} (P : rf_P z m0 t h) (hc : ev_find C pc = some (ev_fn (ev_putf 12 21 .int nx))) (k : ∀ h', rf_P z m0 (uS t 21 v) h' → rf_E m0 h h' → ev_W C (nx, L, r, h') Q) : ev_W C (pc, L, .int v :: .ref m0 :: r, h) Q := by
  refine ev_W.putf hc P.2.2.2.1 rfl rfl rfl ?_
  exact k _ (P.wO (t' := uS t 21 v) rfl rfl).1 (P.wO (t' := uS t 21 v) rfl rfl).2
theorem ev_W.sf58 {v : Int32} (P : rf_P z m0 t h) (hc : ev_find C pc = some (ev_fn (ev_putf 12 58 .int nx))) (k : ∀ h', rf_P z m0 (uS t 58 v) h' → rf_E m0 h h' → ev_W C (nx, L, r, h') Q) : ev_W C (pc, L, .int v :: .ref m0 :: r, h) Q := by
  refine ev_W.putf hc P.2.2.2.1 rfl rfl rfl ?_
  exact k _ (P.wO (t' := uS t 58 v) rfl rfl).1 (P.wO (t' := uS t 58 v) rfl rfl).2
theorem ev_W.sf62 {v : Int32} (P : rf_P z m0 t h) (hc : ev_find C pc = some (ev_fn (ev_putf 12 62 .int nx))) (k : ∀ h', rf_P z m0 (uS t 62 v) h' → rf_E m0 h h' → ev_W C (nx, L, r, h') Q) : ev_W C (pc, L, .int v :: .ref m0 :: r, h) Q := by
  refine ev_W.putf hc P.2.2.2.1 rfl rfl rfl ?_
  exact k _ (P.wO (t' := uS t 62 v) rfl rfl).1 (P.wO (t' := uS t 62 v) rfl rfl).2
end RW
def rf_t0 : rf_S := (fun _ _ => 0, fun _ _ => 0, fun _ => 0, fun _ => 0)
theorem rf_start {z : Nat × Nat} {m0 m : Nat} {g : Nat → Option ev_E} {h : ev_H} (P : pc_ z m0 m g (mod_L m0) h) : rf_P z m0 rf_t0 h := by
  have hl : (mod_L m0).length = 54 := rfl
  refine ⟨P.1, P.2.1, by rw [P.2.2.1, hl]; exact Nat.le_refl _, P.at (r := 0) rfl, ?_, ?_, ?_⟩
  · have hq : ∀ f, f < 65 → rf_k f = 0 → f ∈ [0, 1, 2, 3, 4, 8, 9, 11, 22, 23, 25, 26, 28, 29, 31, 32, 34, 37, 38, 39, 41, 43, 45, 47, 48, 50, 51, 53, 54, 56, 57, 60, 61, 63, 64] := by decide +kernel
    intro f hf
    have hm := hq f (rf_kl f (by omega)) hf
    simp only [List.mem_cons, List.not_mem_nil, or_false] at hm
    rcases hm with rfl | rfl | rfl | rfl | rfl | rfl | rfl | rfl | rfl | rfl | rfl | rfl | rfl | rfl | rfl | rfl | rfl | rfl | rfl | rfl | rfl | rfl | rfl | rfl | rfl | rfl | rfl | rfl | rfl | rfl | rfl | rfl | rfl | rfl | rfl <;> exact P.at rfl
  · have hq : ∀ f, f < 65 → rf_k f = 1 → f ∈ [7, 10, 24, 33, 40, 44, 49, 59] := by decide +kernel
    intro f hf
    have hm := hq f (rf_kl f (by omega)) hf
    simp only [List.mem_cons, List.not_mem_nil, or_false] at hm
    rcases hm with rfl | rfl | rfl | rfl | rfl | rfl | rfl | rfl <;> exact P.at rfl
  · have hq : ∀ f, f < 65 → rf_k f = 2 → f ∈ [5, 6, 27, 30, 35, 36, 42, 46, 52, 55] := by decide +kernel
    intro f hf
    have hm := hq f (rf_kl f (by omega)) hf
    simp only [List.mem_cons, List.not_mem_nil, or_false] at hm
    rcases hm with rfl | rfl | rfl | rfl | rfl | rfl | rfl | rfl | rfl | rfl <;> exact P.at rfl
