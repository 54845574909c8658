/-! An evaluator of straight bytecode over a picture of the heap, sound over the machine once and for all: a method's code is a list of small steps, each shown sound with the kit's rows; what is proved of the evaluator's run is proved of the method ('ev_Met'). -/
-- a cell: an array (number of its kind, length and contents) or an object (number of its class, fields)
abbrev ev_E : Type := (Nat × vp_A) ⊕ (Nat × List Value)
-- a heap: its size (the next address), slots made so far, the cells that are known
abbrev ev_H : Type := Nat × Nat × (Nat → Option ev_E)
abbrev ev_L : Type := List (Option Value)
abbrev ev_S : Type := Nat × ev_L × List Value × ev_H
abbrev ev_O : Type := Option Value × ev_H
-- what a method does (arguments, heap, outcome); what a step does; a step that is a function
abbrev ev_F : Type := List Value → ev_H → ev_O → Prop
abbrev ev_Op : Type := ev_L → List Value → ev_H → (ev_S ⊕ ev_O) → Prop
abbrev ev_Fn : Type := ev_L → List Value → ev_H → Option (ev_S ⊕ ev_O)
def ev_fn (f : ev_Fn) : ev_Op := fun L stk h x => f L stk h = some x
abbrev ev_C : Type := List (Nat × ev_Op)
def ev_upd (f : Nat → Option ev_E) (a : Nat) (x : ev_E) : Nat → Option ev_E := fun b => if b = a then some x else f b
def ev_put (h : ev_H) (a : Nat) (x : ev_E) : ev_H := (h.1, h.2.1, ev_upd h.2.2 a x)
def ev_new (h : ev_H) (k : Nat) (x : ev_E) : ev_H := (h.1 + 1, h.2.1 + k, ev_upd h.2.2 h.1 x)
def ev_find : ev_C → Nat → Option ev_Op
  | [], _ => none
  | (q, o) :: r, pc => match Nat.beq q pc with
    | true => some o
    | false => ev_find r pc
def ev_run (C : ev_C) : Nat → ev_S → ev_O → Prop
  | 0, _, _ => False
  | n + 1, st, o => ∃ op, ev_find C st.1 = some op ∧ ((∃ st', op st.2.1 st.2.2.1 st.2.2.2 (.inl st') ∧ ev_run C n st' o) ∨ op st.2.1 st.2.2.1 st.2.2.2 (.inr o))
def ev_lay : List Value → ev_L
  | [] => []
  | v :: r => if v.category = 2 then some v :: none :: ev_lay r else some v :: ev_lay r
def ev_ent (nL : Nat) (as : List Value) : ev_L := ev_lay as ++ List.replicate (nL - (ev_lay as).length) none
def ev_met (C : ev_C) (nL : Nat) : ev_F := fun as h o => (ev_lay as).length ≤ nL ∧ ∃ n, ev_run C n (0, ev_ent nL as, [], h) o
def ev_at : ev_L → Nat → Option Value
  | [], _ => none
  | x :: _, 0 => x
  | _ :: r, i + 1 => ev_at r i
def ev_clr (x : Option Value) : Option Value := match x with
  | some v => if v.category = 2 then none else some v
  | none => none
def ev_sto1 : ev_L → Nat → Value → ev_L
  | [], _, _ => []
  | _ :: r, 0, v => some v :: r
  | x :: r, i + 1, v => (if i = 0 then ev_clr x else x) :: ev_sto1 r i v
def ev_cut : ev_L → Nat → ev_L
  | [], _ => []
  | _ :: r, 0 => none :: r
  | x :: r, i + 1 => x :: ev_cut r i
def ev_sto2 (L : ev_L) (i : Nat) (v : Value) : ev_L := ev_cut (ev_sto1 L i v) (i + 1)
theorem ev_at_sto1 : ∀ (L : ev_L) (i : Nat) (v : Value) (j : Nat) (w : Value), ev_at (ev_sto1 L i v) j = some w → (j = i ∧ w = v) ∨ (j ≠ i ∧ ev_at L j = some w ∧ ¬ (j + 1 = i ∧ w.category = 2)) := by
  intro L
  induction L with
  | nil => intro i v j w h; simp [ev_sto1, ev_at] at h
  | cons x r ih =>
    intro i v j w h
    cases i with
    | zero =>
      cases j with
      | zero => simp [ev_sto1, ev_at] at h; exact Or.inl ⟨rfl, h.symm⟩
      | succ j => simp [ev_sto1, ev_at] at h; exact Or.inr ⟨by omega, by simpa [ev_at] using h, fun q => by omega⟩
    | succ i =>
      cases j with
      | zero =>
        refine Or.inr ⟨by omega, ?_⟩
        by_cases hi : i = 0
        · subst hi
          simp only [ev_sto1, ev_at, if_pos] at h
          cases x with
          | none => simp [ev_clr] at h
          | some u =>
            simp only [ev_clr] at h
            split at h
            · cases h
            · rename_i hc
              cases h
              exact ⟨rfl, fun q => hc q.2⟩
        · simp only [ev_sto1, ev_at, if_neg hi] at h
          exact ⟨by simpa [ev_at] using h, fun q => by omega⟩
      | succ j =>
        simp only [ev_sto1, ev_at] at h
        rcases ih i v j w h with ⟨a, b⟩ | ⟨a, b, d⟩
        · exact Or.inl ⟨by omega, b⟩
        · exact Or.inr ⟨by omega, by simpa [ev_at] using b, fun q => d ⟨by omega, q.2⟩⟩
theorem ev_at_cut : ∀ (L : ev_L) (i j : Nat) (w : Value), ev_at (ev_cut L i) j = some w → j ≠ i ∧ ev_at L j = some w := by
  intro L
  induction L with
  | nil => intro i j w h; simp [ev_cut, ev_at] at h
  | cons x r ih =>
    intro i j w h
    cases i with
    | zero =>
      cases j with
      | zero => simp [ev_cut, ev_at] at h
      | succ j => simp [ev_cut, ev_at] at h; exact ⟨by omega, by simpa [ev_at] using h⟩
    | succ i =>
      cases j with
      | zero => simp [ev_cut, ev_at] at h; exact ⟨by omega, by simpa [ev_at] using h⟩
      | succ j =>
        simp only [ev_cut, ev_at] at h
        obtain ⟨a, b⟩ := ih i j w h
        exact ⟨by omega, by simpa [ev_at] using b⟩
-- locals: what the evaluator knows of the machine's
def ev_lst : Nat → ev_L → List (Nat × Value)
  | _, [] => []
  | i, none :: r => ev_lst (i + 1) r
  | i, some v :: r => (i, v) :: ev_lst (i + 1) r
theorem ev_mem_lst : ∀ (L : ev_L) (i : Nat) (q : Nat × Value), q ∈ ev_lst i L ↔ ∃ j, q.1 = i + j ∧ ev_at L j = some q.2 := by
  intro L
  induction L with
  | nil => intro i q; simp [ev_lst, ev_at]
  | cons x r ih =>
    intro i q
    cases x with
    | none =>
      simp only [ev_lst]
      rw [ih]
      constructor
      · rintro ⟨j, h1, h2⟩; exact ⟨j + 1, by omega, h2⟩
      · rintro ⟨j, h1, h2⟩
        cases j with
        | zero => simp [ev_at] at h2
        | succ j => exact ⟨j, by omega, h2⟩
    | some v =>
      simp only [ev_lst, List.mem_cons]
      rw [ih]
      constructor
      · rintro (h | ⟨j, h1, h2⟩)
        · exact ⟨0, by rw [h]; rfl, by rw [h]; rfl⟩
        · exact ⟨j + 1, by omega, h2⟩
      · rintro ⟨j, h1, h2⟩
        cases j with
        | zero =>
          left
          simp [ev_at] at h2
          exact Prod.ext (by simpa using h1) h2.symm
        | succ j => exact Or.inr ⟨j, by omega, h2⟩
def ev_lv (ls : Array Slot) (nL : Nat) (L : ev_L) : Prop := ls.size = nL ∧ lv_wf ls ∧ ∀ (i : Nat) (v : Value), ev_at L i = some v → ls[i]? = some (.val v)
theorem ev_lv.has {ls : Array Slot} {nL : Nat} {L : ev_L} (h : ev_lv ls nL L) : lv_has ls nL (ev_lst 0 L) := by
  refine ⟨h.1, h.2.1, fun q hq => ?_⟩
  obtain ⟨j, h1, h2⟩ := (ev_mem_lst L 0 q).mp hq
  rw [show q.1 = j by omega]
  exact h.2.2 j q.2 h2
theorem ev_lv.of {ls : Array Slot} {nL : Nat} {L : ev_L} {l : List (Nat × Value)} (h : lv_has ls nL l) (hl : ∀ (i : Nat) (v : Value), ev_at L i = some v → (i, v) ∈ l) : ev_lv ls nL L := ⟨h.1, h.2.1, fun i v hv => h.2.2 (i, v) (hl i v hv)⟩
theorem ev_lv.sto1 {ls : Array Slot} {nL : Nat} {L : ev_L} {i : Nat} {v : Value} (h : lv_has ls nL ((i, v) :: (ev_lst 0 L).filter (fun q => !(q.1 == i) && !(q.1 + 1 == i && q.2.category == 2)))) : ev_lv ls nL (ev_sto1 L i v) := by
  refine ev_lv.of h fun j w hw => ?_
  rcases ev_at_sto1 L i v j w hw with ⟨a, b⟩ | ⟨a, b, d⟩
  · rw [a, b]; exact List.mem_cons_self
  · refine List.mem_cons_of_mem _ (List.mem_filter.mpr ⟨(ev_mem_lst L 0 (j, w)).mpr ⟨j, by simp, b⟩, ?_⟩)
    simp only [Bool.and_eq_true, Bool.not_eq_true', beq_eq_false_iff_ne, Bool.and_eq_false_imp, beq_iff_eq]
    exact ⟨a, fun e1 e2 => d ⟨e1, e2⟩⟩
theorem ev_lv.sto2 {ls : Array Slot} {nL : Nat} {L : ev_L} {i : Nat} {v : Value} (h : lv_has ls nL ((i, v) :: (ev_lst 0 L).filter (fun q => !(q.1 == i) && (!(q.1 == i + 1) && !(q.1 + 1 == i && q.2.category == 2))))) : ev_lv ls nL (ev_sto2 L i v) := by
  refine ev_lv.of h fun j w hw => ?_
  obtain ⟨hj, hw⟩ := ev_at_cut _ _ _ _ hw
  rcases ev_at_sto1 L i v j w hw with ⟨a, b⟩ | ⟨a, b, d⟩
  · rw [a, b]; exact List.mem_cons_self
  · refine List.mem_cons_of_mem _ (List.mem_filter.mpr ⟨(ev_mem_lst L 0 (j, w)).mpr ⟨j, by simp, b⟩, ?_⟩)
    simp only [Bool.and_eq_true, Bool.not_eq_true', beq_eq_false_iff_ne, Bool.and_eq_false_imp, beq_iff_eq]
    exact ⟨a, hj, fun e1 e2 => d ⟨e1, e2⟩⟩
theorem ev_lay_args : ∀ (vs : List Value) (i j : Nat) (v : Value), ev_at (ev_lay vs) j = some v → (i + j, v) ∈ lv_args i vs := by
  intro vs
  induction vs with
  | nil => intro i j v h; simp [ev_lay, ev_at] at h
  | cons u r ih =>
    intro i j v h
    by_cases hc : u.category = 2
    · simp only [ev_lay, if_pos hc] at h
      simp only [lv_args, if_pos hc]
      match j, h with
      | 0, h => simp [ev_at] at h; rw [h]; exact List.mem_cons_self
      | 1, h => simp [ev_at] at h
      | j + 2, h =>
        simp only [ev_at] at h
        have := ih (i + 2) j v h
        rw [show i + (j + 2) = i + 2 + j by omega]
        exact List.mem_cons_of_mem _ this
    · simp only [ev_lay, if_neg hc] at h
      simp only [lv_args, if_neg hc]
      match j, h with
      | 0, h => simp [ev_at] at h; rw [h]; exact List.mem_cons_self
      | j + 1, h =>
        simp only [ev_at] at h
        have := ih (i + 1) j v h
        rw [show i + (j + 1) = i + 1 + j by omega]
        exact List.mem_cons_of_mem _ this
theorem ev_at_app : ∀ (L : ev_L) (k j : Nat) (v : Value), ev_at (L ++ List.replicate k none) j = some v → ev_at L j = some v := by
  intro L
  induction L with
  | nil =>
    intro k
    induction k with
    | zero => intro j v h; simp [ev_at] at h
    | succ k ih =>
      intro j v h
      cases j with
      | zero => simp [List.replicate_succ, ev_at] at h
      | succ j => simp only [List.nil_append, List.replicate_succ, ev_at] at h; exact absurd (ih j v (by simpa using h)) (by simp [ev_at])
  | cons x r ih =>
    intro k j v h
    cases j with
    | zero => simpa [ev_at] using h
    | succ j => simp only [List.cons_append, ev_at] at h ⊢; exact ih k j v h
theorem ev_lay_len : ∀ vs : List Value, (ev_lay vs).length = (lg_sl vs).length := by
  intro vs
  induction vs with
  | nil => rfl
  | cons u r ih =>
    by_cases hc : u.category = 2
    · simp only [ev_lay, if_pos hc, List.length_cons, ih]
      simp [lg_sl, hc]
    · simp only [ev_lay, if_neg hc, List.length_cons, ih]
      simp [lg_sl, hc]
theorem ev_lv.entry {vs : List Value} {n : Nat} (h : (ev_lay vs).length ≤ n) : ev_lv ((lg_sl vs ++ List.replicate (n - (lg_sl vs).length) Slot.unset).toArray) n (ev_ent n vs) := by
  refine ev_lv.of (lv_entry vs (by rw [← ev_lay_len]; exact h)) fun i v hv => ?_
  have := ev_lay_args vs 0 i v (ev_at_app _ _ _ _ hv)
  simpa using this
