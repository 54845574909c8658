/-! java.util.ArrayList: what its methods do to a picture of a list. -/
-- the backing array e of cap places holds the references xs (or e is the empty one below)
def ls_ar (z : Nat × Nat) (h : ev_H) (e cap : Nat) (xs : List Nat) : Prop := (e = z.1 ∧ xs = [] ∧ cap = 0) ∨ (e ≠ z.1 ∧ ∃ f : Nat → Option Nat, h.2.2 e = some (.inl (3, cap, .inr (.inr (.inr (.inr f))))) ∧ xs.length ≤ cap ∧ ∀ i, i < xs.length → f i = xs[i]?)
def ls_at (z : Nat × Nat) (h : ev_H) (a e cap : Nat) (xs : List Nat) : Prop := ∃ mc : Int32, h.2.2 a = some (.inr (2, [.ref e, .int (nI xs.length), .int mc])) ∧ ls_ar z h e cap xs
-- what lies in a list may lie in an array of objects
def ls_ob (h : ev_H) (xs : List Nat) : Prop := ∀ x ∈ xs, ∃ (ci : Nat) (fs : List Value), h.2.2 x = some (.inr (ci, fs)) ∧ ci ∈ gw_cs
theorem sp_JP (z : Nat × Nat) {i n : Nat} {h : ev_H} {Q : ev_O → Prop} (hi : i < n) (hn : n < 2 ^ 31) (k : Q (some (.int (nI i)), h)) : ev_M (mf_JP_checkIndex z) [.int (nI i), .int (nI n), .null] h Q := by
  refine ev_M.go rfl rfl ?_
  refine ev_W.fn rfl rfl ?_
  refine ev_W.brF rfl rfl (nI_pos (by omega)) ?_
  refine ev_W.fn rfl rfl ?_
  refine ev_W.fn rfl rfl ?_
  refine ev_W.brT rfl rfl (nI_lt hi hn) ?_
  refine ev_W.fn rfl rfl ?_
  exact ev_W.ret rfl rfl k
theorem sp_JO (z : Nat × Nat) {i n : Nat} {h : ev_H} {Q : ev_O → Prop} (hi : i < n) (hn : n < 2 ^ 31) (k : Q (some (.int (nI i)), h)) : ev_M (mf_JO_checkIndex z) [.int (nI i), .int (nI n)] h Q := by
  refine ev_M.go rfl rfl ?_
  refine ev_W.fn rfl rfl ?_
  refine ev_W.fn rfl rfl ?_
  refine ev_W.fn rfl rfl ?_
  refine ev_W.cl rfl rfl rfl rfl rfl ?_
  refine sp_JP z hi hn ?_
  exact ev_W.ret rfl rfl k
theorem sp_A_size (z : Nat × Nat) {a e cap : Nat} {xs : List Nat} {h : ev_H} {Q : ev_O → Prop} (ha : ls_at z h a e cap xs) (k : Q (some (.int (nI xs.length)), h)) : ev_M (mf_A_size z) [.ref a] h Q := by
  obtain ⟨mc, h1, -⟩ := ha
  refine ev_M.go rfl rfl ?_
  refine ev_W.fn rfl rfl ?_
  refine ev_W.obj rfl h1 rfl ?_
  exact ev_W.ret rfl rfl k
theorem sp_A_isEmpty (z : Nat × Nat) {a e cap : Nat} {xs : List Nat} {h : ev_H} {Q : ev_O → Prop} (ha : ls_at z h a e cap xs) (hl : xs.length < 2 ^ 31) (k : Q (some (.int (zb xs.isEmpty)), h)) : ev_M (mf_A_isEmpty z) [.ref a] h Q := by
  obtain ⟨mc, h1, -⟩ := ha
  refine ev_M.go rfl rfl ?_
  refine ev_W.fn rfl rfl ?_
  refine ev_W.obj rfl h1 rfl ?_
  cases xs with
  | nil =>
    refine ev_W.fn rfl rfl ?_
    refine ev_W.fn rfl rfl ?_
    refine ev_W.fn rfl rfl ?_
    exact ev_W.zret rfl (Or.inr rfl) k
  | cons x r =>
    refine ev_W.brT rfl rfl (nI_ne0 (by simp) hl) ?_
    refine ev_W.fn rfl rfl ?_
    exact ev_W.zret rfl (Or.inl rfl) k
theorem ls_ar.pos {z : Nat × Nat} {h : ev_H} {e cap : Nat} {xs : List Nat} (ha : ls_ar z h e cap xs) (hp : 0 < xs.length) : e ≠ z.1 ∧ ∃ f : Nat → Option Nat, h.2.2 e = some (.inl (3, cap, .inr (.inr (.inr (.inr f))))) ∧ xs.length ≤ cap ∧ ∀ i, i < xs.length → f i = xs[i]? := by
  rcases ha with ⟨-, h1, -⟩ | h1
  · rw [h1] at hp; simp at hp
  · exact h1
theorem sp_A_elementData (z : Nat × Nat) {a e cap i x : Nat} {xs : List Nat} {h : ev_H} {Q : ev_O → Prop} (ha : ls_at z h a e cap xs) (hc : cap < 2 ^ 31) (hi : xs[i]? = some x) (k : Q (some (.ref x), h)) : ev_M (mf_A_elementData z) [.ref a, .int (nI i)] h Q := by
  obtain ⟨mc, h1, h2⟩ := ha
  have hl : i < xs.length := (List.getElem?_eq_some_iff.mp hi).1
  obtain ⟨hne, f, h3, h4, h5⟩ := h2.pos (by omega)
  refine ev_M.go rfl rfl ?_
  refine ev_W.fn rfl rfl ?_
  refine ev_W.obj rfl h1 rfl ?_
  refine ev_W.fn rfl rfl ?_
  refine ev_W.aaldN rfl h3 (by decide) rfl (by omega) hc ?_
  rw [h5 i hl, hi]
  exact ev_W.ret rfl rfl k
theorem sp_A_get (z : Nat × Nat) {a e cap i x : Nat} {xs : List Nat} {h : ev_H} {Q : ev_O → Prop} (ha : ls_at z h a e cap xs) (hc : cap < 2 ^ 31) (hi : xs[i]? = some x) (k : Q (some (.ref x), h)) : ev_M (mf_A_get z) [.ref a, .int (nI i)] h Q := by
  have hl : i < xs.length := (List.getElem?_eq_some_iff.mp hi).1
  have ha0 := ha
  obtain ⟨mc, h1, h2⟩ := ha
  obtain ⟨hne, f, h3, h4, h5⟩ := h2.pos (by omega)
  refine ev_M.go rfl rfl ?_
  refine ev_W.fn rfl rfl ?_
  refine ev_W.fn rfl rfl ?_
  refine ev_W.obj rfl h1 rfl ?_
  refine ev_W.cl rfl rfl rfl rfl rfl ?_
  refine sp_JO z hl (by omega) ?_
  refine ev_W.fn rfl rfl ?_
  refine ev_W.fn rfl rfl ?_
  refine ev_W.fn rfl rfl ?_
  refine ev_W.clR rfl rfl rfl rfl rfl h1 ?_
  refine sp_A_elementData z ha0 hc hi ?_
  exact ev_W.ret rfl rfl k
-- a new list
theorem sp_A_init (z : Nat × Nat) {a : Nat} {h : ev_H} {Q : ev_O → Prop} {fs : List Value} {v0 v1 v2 : Value} (ha : h.2.2 a = some (.inr (2, [v0, v1, v2]))) (hf : v1 = .int 0) (k : Q (none, ev_put (ev_put h a (.inr (2, [v0, .int 0, .int 0]))) a (.inr (2, [.ref z.1, .int 0, .int 0])))) : ev_M (mf_A_init z) [.ref a] h Q := by
  subst hf
  refine ev_M.go rfl rfl ?_
  refine ev_W.fn rfl rfl ?_
  refine ev_W.clI rfl rfl rfl rfl rfl ?_
  refine ev_M.go rfl rfl ?_
  refine ev_W.fn rfl rfl ?_
  refine ev_W.clI rfl rfl rfl rfl rfl ?_
  refine ev_M.go rfl rfl ?_
  refine ev_W.fn rfl rfl ?_
  refine ev_W.fn rfl rfl ?_
  refine ev_W.ret rfl rfl ?_
  refine ev_W.fn rfl rfl ?_
  refine ev_W.fn rfl rfl ?_
  refine ev_W.putf rfl ha rfl rfl rfl ?_
  refine ev_W.ret rfl rfl ?_
  refine ev_W.fn rfl rfl ?_
  refine ev_W.fn rfl rfl ?_
  refine ev_W.putf rfl ev_put_same rfl rfl rfl ?_
  exact ev_W.ret rfl rfl k

-- the heap is as it was but at some places below its size
def hp_eq (h h' : ev_H) (S : Nat → Prop) : Prop := ∀ b, b < h.1 → ¬ S b → h'.2.2 b = h.2.2 b
-- set(i, v)
theorem sp_A_set (z : Nat × Nat) {a e cap i x v ci : Nat} {xs : List Nat} {fs : List Value} {h : ev_H} {Q : ev_O → Prop} (ha : ls_at z h a e cap xs) (hae : e ≠ a) (hc : cap < 2 ^ 31) (hi : xs[i]? = some x) (hv : h.2.2 v = some (.inr (ci, fs))) (hci : ci ∈ gw_cs) (hve : v ≠ e)
    (k : ∀ h' : ev_H, ls_at z h' a e cap (xs.set i v) → (∀ b, b ≠ e → h'.2.2 b = h.2.2 b) → h'.1 = h.1 → h'.2.1 = h.2.1 → Q (some (.ref x), h')) : ev_M (mf_A_set z) [.ref a, .int (nI i), .ref v] h Q := by
  have hl : i < xs.length := (List.getElem?_eq_some_iff.mp hi).1
  have ha0 := ha
  obtain ⟨mc, h1, h2⟩ := ha
  obtain ⟨hne, f, h3, h4, h5⟩ := h2.pos (by omega)
  refine ev_M.go rfl rfl ?_
  refine ev_W.fn rfl rfl ?_
  refine ev_W.fn rfl rfl ?_
  refine ev_W.obj rfl h1 rfl ?_
  refine ev_W.cl rfl rfl rfl rfl rfl ?_
  refine sp_JO z hl (by omega) ?_
  refine ev_W.fn rfl rfl ?_
  refine ev_W.fn rfl rfl ?_
  refine ev_W.fn rfl rfl ?_
  refine ev_W.clR rfl rfl rfl rfl rfl h1 ?_
  refine sp_A_elementData z ha0 hc hi ?_
  refine ev_W.fn rfl rfl ?_
  refine ev_W.fn rfl rfl ?_
  refine ev_W.obj rfl h1 rfl ?_
  refine ev_W.fn rfl rfl ?_
  refine ev_W.fn rfl rfl ?_
  refine ev_W.aastN rfl h3 hv (by simp [gw_ast, hci]) rfl (by omega) hc ?_
  refine ev_W.fn rfl rfl ?_
  refine ev_W.ret rfl rfl ?_
  refine k _ ⟨mc, ?_, Or.inr ⟨hne, va_up f i (some v), ev_put_same, by simpa using h4, fun j hj => ?_⟩⟩ (fun b hb => ev_put_ne hb) rfl rfl
  · rw [ev_put_ne (Ne.symm hae), List.length_set]; exact h1
  · rw [List.length_set] at hj
    by_cases hji : j = i
    · subst hji
      rw [va_up_self, List.getElem?_set_self hj]
    · rw [va_up_ne _ _ hji, List.getElem?_set_ne (Ne.symm hji)]
      exact h5 j hj
