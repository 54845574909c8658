section
/-! An evaluator of straight bytecode over a picture of the heap, sound over the machine once and for all: a method's code is a list of small steps, each shown sound with the kit's rows; what is proved of the evaluator's run is proved of the method ('ev_Met'). -/
-- a cell: an array (number of its kind, length and contents) or an object (number of its class, fields)
abbrev ev_E : Type := (Nat × vp_A) ⊕ (Nat × List Value)
-- a heap: its size (the next address), slots made so far, the cells that are known
abbrev ev_H : Type := Nat × Nat × (Nat → Option ev_E)
abbrev ev_L : Type := List (Option Value)
abbrev ev_S : Type := Nat × ev_L × List Value × ev_H
abbrev ev_O : Type := Option Value × ev_H
-- what a method does (arguments, heap, outcome); what a step does; a step that is a function
abbrev ev_F : Type := List Value → ev_H → ev_O → Prop
abbrev ev_Op : Type := ev_L → List Value → ev_H → (ev_S ⊕ ev_O) → Prop
abbrev ev_Fn : Type := ev_L → List Value → ev_H → Option (ev_S ⊕ ev_O)
def ev_fn (f : ev_Fn) : ev_Op := fun L stk h x => f L stk h = some x
abbrev ev_C : Type := List (Nat × ev_Op)
def ev_upd (f : Nat → Option ev_E) (a : Nat) (x : ev_E) : Nat → Option ev_E := fun b => if b = a then some x else f b
def ev_put (h : ev_H) (a : Nat) (x : ev_E) : ev_H := (h.1, h.2.1, ev_upd h.2.2 a x)
def ev_new (h : ev_H) (k : Nat) (x : ev_E) : ev_H := (h.1 + 1, h.2.1 + k, ev_upd h.2.2 h.1 x)
def ev_find : ev_C → Nat → Option ev_Op
  | [], _ => none
  | (q, o) :: r, pc => match Nat.beq q pc with
    | true => some o
    | false => ev_find r pc
def ev_run (C : ev_C) : Nat → ev_S → ev_O → Prop
  | 0, _, _ => False
  | n + 1, st, o => ∃ op, ev_find C st.1 = some op ∧ ((∃ st', op st.2.1 st.2.2.1 st.2.2.2 (.inl st') ∧ ev_run C n st' o) ∨ op st.2.1 st.2.2.1 st.2.2.2 (.inr o))
def ev_lay : List Value → ev_L
  | [] => []
  | v :: r => if v.category = 2 then some v :: none :: ev_lay r else some v :: ev_lay r
def ev_ent (nL : Nat) (as : List Value) : ev_L := ev_lay as ++ List.replicate (nL - (ev_lay as).length) none
def ev_met (C : ev_C) (nL : Nat) : ev_F := fun as h o => (ev_lay as).length ≤ nL ∧ ∃ n, ev_run C n (0, ev_ent nL as, [], h) o
def ev_at : ev_L → Nat → Option Value
  | [], _ => none
  | x :: _, 0 => x
  | _ :: r, i + 1 => ev_at r i
def ev_clr (x : Option Value) : Option Value := match x with
  | some v => if v.category = 2 then none else some v
  | none => none
def ev_sto1 : ev_L → Nat → Value → ev_L
  | [], _, _ => []
  | _ :: r, 0, v => some v :: r
  | x :: r, i + 1, v => (if i = 0 then ev_clr x else x) :: ev_sto1 r i v
def ev_cut : ev_L → Nat → ev_L
  | [], _ => []
  | _ :: r, 0 => none :: r
  | x :: r, i + 1 => x :: ev_cut r i
def ev_sto2 (L : ev_L) (i : Nat) (v : Value) : ev_L := ev_cut (ev_sto1 L i v) (i + 1)
theorem ev_at_sto1 : ∀ (L : ev_L) (i : Nat) (v : Value) (j : Nat) (w : Value), ev_at (ev_sto1 L i v) j = some w → (j = i ∧ w = v) ∨ (j ≠ i ∧ ev_at L j = some w ∧ ¬ (j + 1 = i ∧ w.category = 2)) := by
  intro L
  induction L with
  | nil => intro i v j w h; simp [ev_sto1, ev_at] at h
  | cons x r ih =>
    intro i v j w h
    cases i with
    | zero =>
      cases j with
      | zero => simp [ev_sto1, ev_at] at h; exact Or.inl ⟨rfl, h.symm⟩
      | succ j => simp [ev_sto1, ev_at] at h; exact Or.inr ⟨by omega, by simpa [ev_at] using h, fun q => by omega⟩
    | succ i =>
      cases j with
      | zero =>
        refine Or.inr ⟨by omega, ?_⟩
        by_cases hi : i = 0
        · subst hi
          simp only [ev_sto1, ev_at, if_pos] at h
          cases x with
          | none => simp [ev_clr] at h
          | some u =>
            simp only [ev_clr] at h
            split at h
            · cases h
            · rename_i hc
              cases h
              exact ⟨rfl, fun q => hc q.2⟩
        · simp only [ev_sto1, ev_at, if_neg hi] at h
          exact ⟨by simpa [ev_at] using h, fun q => by omega⟩
      | succ j =>
        simp only [ev_sto1, ev_at] at h
        rcases ih i v j w h with ⟨a, b⟩ | ⟨a, b, d⟩
        · exact Or.inl ⟨by omega, b⟩
        · exact Or.inr ⟨by omega, by simpa [ev_at] using b, fun q => d ⟨by omega, q.2⟩⟩
theorem ev_at_cut : ∀ (L : ev_L) (i j : Nat) (w : Value), ev_at (ev_cut L i) j = some w → j ≠ i ∧ ev_at L j = some w := by
  intro L
  induction L with
  | nil => intro i j w h; simp [ev_cut, ev_at] at h
  | cons x r ih =>
    intro i j w h
    cases i with
    | zero =>
      cases j with
      | zero => simp [ev_cut, ev_at] at h
      | succ j => simp [ev_cut, ev_at] at h; exact ⟨by omega, by simpa [ev_at] using h⟩
    | succ i =>
      cases j with
      | zero => simp [ev_cut, ev_at] at h; exact ⟨by omega, by simpa [ev_at] using h⟩
      | succ j =>
        simp only [ev_cut, ev_at] at h
        obtain ⟨a, b⟩ := ih i j w h
        exact ⟨by omega, by simpa [ev_at] using b⟩
-- locals: what the evaluator knows of the machine's
def ev_lst : Nat → ev_L → List (Nat × Value)
  | _, [] => []
  | i, none :: r => ev_lst (i + 1) r
  | i, some v :: r => (i, v) :: ev_lst (i + 1) r
theorem ev_mem_lst : ∀ (L : ev_L) (i : Nat) (q : Nat × Value), q ∈ ev_lst i L ↔ ∃ j, q.1 = i + j ∧ ev_at L j = some q.2 := by
  intro L
  induction L with
  | nil => intro i q; simp [ev_lst, ev_at]
  | cons x r ih =>
    intro i q
    cases x with
    | none =>
      simp only [ev_lst]
      rw [ih]
      constructor
      · rintro ⟨j, h1, h2⟩; exact ⟨j + 1, by omega, h2⟩
      · rintro ⟨j, h1, h2⟩
        cases j with
        | zero => simp [ev_at] at h2
        | succ j => exact ⟨j, by omega, h2⟩
    | some v =>
      simp only [ev_lst, List.mem_cons]
      rw [ih]
      constructor
      · rintro (h | ⟨j, h1, h2⟩)
        · exact ⟨0, by rw [h]; rfl, by rw [h]; rfl⟩
        · exact ⟨j + 1, by omega, h2⟩
      · rintro ⟨j, h1, h2⟩
        cases j with
        | zero =>
          left
          simp [ev_at] at h2
          exact Prod.ext (by simpa using h1) h2.symm
        | succ j => exact Or.inr ⟨j, by omega, h2⟩
def ev_lv (ls : Array Slot) (nL : Nat) (L : ev_L) : Prop := ls.size = nL ∧ lv_wf ls ∧ ∀ (i : Nat) (v : Value), ev_at L i = some v → ls[i]? = some (.val v)
theorem ev_lv.has {ls : Array Slot} {nL : Nat} {L : ev_L} (h : ev_lv ls nL L) : lv_has ls nL (ev_lst 0 L) := by
  refine ⟨h.1, h.2.1, fun q hq => ?_⟩
  obtain ⟨j, h1, h2⟩ := (ev_mem_lst L 0 q).mp hq
  rw [show q.1 = j by omega]
  exact h.2.2 j q.2 h2
theorem ev_lv.of {ls : Array Slot} {nL : Nat} {L : ev_L} {l : List (Nat × Value)} (h : lv_has ls nL l) (hl : ∀ (i : Nat) (v : Value), ev_at L i = some v → (i, v) ∈ l) : ev_lv ls nL L := ⟨h.1, h.2.1, fun i v hv => h.2.2 (i, v) (hl i v hv)⟩
theorem ev_lv.sto1 {ls : Array Slot} {nL : Nat} {L : ev_L} {i : Nat} {v : Value} (h : lv_has ls nL ((i, v) :: (ev_lst 0 L).filter (fun q => !(q.1 == i) && !(q.1 + 1 == i && q.2.category == 2)))) : ev_lv ls nL (ev_sto1 L i v) := by
  refine ev_lv.of h fun j w hw => ?_
  rcases ev_at_sto1 L i v j w hw with ⟨a, b⟩ | ⟨a, b, d⟩
  · rw [a, b]; exact List.mem_cons_self
  · refine List.mem_cons_of_mem _ (List.mem_filter.mpr ⟨(ev_mem_lst L 0 (j, w)).mpr ⟨j, by simp, b⟩, ?_⟩)
    simp only [Bool.and_eq_true, Bool.not_eq_true', beq_eq_false_iff_ne, Bool.and_eq_false_imp, beq_iff_eq]
    exact ⟨a, fun e1 e2 => d ⟨e1, e2⟩⟩
theorem ev_lv.sto2 {ls : Array Slot} {nL : Nat} {L : ev_L} {i : Nat} {v : Value} (h : lv_has ls nL ((i, v) :: (ev_lst 0 L).filter (fun q => !(q.1 == i) && (!(q.1 == i + 1) && !(q.1 + 1 == i && q.2.category == 2))))) : ev_lv ls nL (ev_sto2 L i v) := by
  refine ev_lv.of h fun j w hw => ?_
  obtain ⟨hj, hw⟩ := ev_at_cut _ _ _ _ hw
  rcases ev_at_sto1 L i v j w hw with ⟨a, b⟩ | ⟨a, b, d⟩
  · rw [a, b]; exact List.mem_cons_self
  · refine List.mem_cons_of_mem _ (List.mem_filter.mpr ⟨(ev_mem_lst L 0 (j, w)).mpr ⟨j, by simp, b⟩, ?_⟩)
    simp only [Bool.and_eq_true, Bool.not_eq_true', beq_eq_false_iff_ne, Bool.and_eq_false_imp, beq_iff_eq]
    exact ⟨a, hj, fun e1 e2 => d ⟨e1, e2⟩⟩
theorem ev_lay_args : ∀ (vs : List Value) (i j : Nat) (v : Value), ev_at (ev_lay vs) j = some v → (i + j, v) ∈ lv_args i vs := by
  intro vs
  induction vs with
  | nil => intro i j v h; simp [ev_lay, ev_at] at h
  | cons u r ih =>
    intro i j v h
    by_cases hc : u.category = 2
    · simp only [ev_lay, if_pos hc] at h
      simp only [lv_args, if_pos hc]
      match j, h with
      | 0, h => simp [ev_at] at h; rw [h]; exact List.mem_cons_self
      | 1, h => simp [ev_at] at h
      | j + 2, h =>
        simp only [ev_at] at h
        have := ih (i + 2) j v h
        rw [show i + (j + 2) = i + 2 + j by omega]
        exact List.mem_cons_of_mem _ this
    · simp only [ev_lay, if_neg hc] at h
      simp only [lv_args, if_neg hc]
      match j, h with
      | 0, h => simp [ev_at] at h; rw [h]; exact List.mem_cons_self
      | j + 1, h =>
        simp only [ev_at] at h
        have := ih (i + 1) j v h
        rw [show i + (j + 1) = i + 1 + j by omega]
        exact List.mem_cons_of_mem _ this
theorem ev_at_app : ∀ (L : ev_L) (k j : Nat) (v : Value), ev_at (L ++ List.replicate k none) j = some v → ev_at L j = some v := by
  intro L
  induction L with
  | nil =>
    intro k
    induction k with
    | zero => intro j v h; simp [ev_at] at h
    | succ k ih =>
      intro j v h
      cases j with
      | zero => simp [List.replicate_succ, ev_at] at h
      | succ j => simp only [List.nil_append, List.replicate_succ, ev_at] at h; exact absurd (ih j v (by simpa using h)) (by simp [ev_at])
  | cons x r ih =>
    intro k j v h
    cases j with
    | zero => simpa [ev_at] using h
    | succ j => simp only [List.cons_append, ev_at] at h ⊢; exact ih k j v h
theorem ev_lay_len : ∀ vs : List Value, (ev_lay vs).length = (lg_sl vs).length := by
  intro vs
  induction vs with
  | nil => rfl
  | cons u r ih =>
    by_cases hc : u.category = 2
    · simp only [ev_lay, if_pos hc, List.length_cons, ih]
      simp [lg_sl, hc]
    · simp only [ev_lay, if_neg hc, List.length_cons, ih]
      simp [lg_sl, hc]
theorem ev_lv.entry {vs : List Value} {n : Nat} (h : (ev_lay vs).length ≤ n) : ev_lv ((lg_sl vs ++ List.replicate (n - (lg_sl vs).length) Slot.unset).toArray) n (ev_ent n vs) := by
  refine ev_lv.of (lv_entry vs (by rw [← ev_lay_len]; exact h)) fun i v hv => ?_
  have := ev_lay_args vs 0 i v (ev_at_app _ _ _ _ hv)
  simpa using this
end
section
/-! The world of a picture, the judgement, the run, the contract. -/
def ev_cv (cA : Nat → ClassId) (x : ev_E) : va_E := match x with
  | .inl a => .inl (cA a.1, a.2)
  | .inr o => .inr o
def ev_wd (D : va_G) (cl : List vw_C) (cA : Nat → ClassId) (lo : Nat) (h : ev_H) (H : Heap) : Prop := H.size = h.1 ∧ ∀ (a : Nat) (x : ev_E), h.2.2 a = some x → lo ≤ a ∧ va_at D cl (a, ev_cv cA x) H
def ev_tyA (cA : Nat → ClassId) : Nat → List FieldType → List (ClassId × FieldType)
  | _, [] => []
  | i, t :: r => (cA i, t) :: ev_tyA cA (i + 1) r
theorem ev_tyA_get (cA : Nat → ClassId) : ∀ (l : List FieldType) (i t : Nat) (ty : FieldType), l[t]? = some ty → (ev_tyA cA i l)[t]? = some (cA (i + t), ty) := by
  intro l
  induction l with
  | nil => intro i t ty h; simp at h
  | cons x r ih =>
    intro i t ty h
    cases t with
    | zero => simp at h; simp [ev_tyA, h]
    | succ t =>
      simp only [List.getElem?_cons_succ] at h
      simp only [ev_tyA, List.getElem?_cons_succ]
      rw [ih (i + 1) t ty h, show i + 1 + t = i + (t + 1) by omega]
def ev_ty (cA : Nat → ClassId) (tyL : List FieldType) : List (ClassId × FieldType) := ev_tyA cA 0 tyL
theorem ev_ty_get {cA : Nat → ClassId} {tyL : List FieldType} {t : Nat} {ty : FieldType} (h : tyL[t]? = some ty) : (ev_ty cA tyL)[t]? = some (cA t, ty) := by
  have := ev_tyA_get cA tyL 0 t ty h
  rwa [Nat.zero_add] at this
-- what lies below lo, and words of the tables that aren't kept by themselves: it stays
def ev_St (lo : Nat) (O : State → Prop) : Prop := ∀ U V : State, U.WarmedH V.vm ∨ U.vm = V.vm → U.heap.size ≤ V.heap.size → (∀ q, q < lo → V.heap[q]? = U.heap[q]?) → O U → O V
def ev_U (D : va_G) (cl : List vw_C) (cA : Nat → ClassId) (tyL : List FieldType) (lo : Nat) (O : State → Prop) (h : ev_H) (U : State) : Prop := ev_wd D cl cA lo h U.heap ∧ va_K D cl (ev_ty cA tyL) U ∧ O U ∧ lo ≤ U.heap.size
def ev_Qc (D : va_G) (cl : List vw_C) (cA : Nat → ClassId) (tyL : List FieldType) (lo : Nat) (O : State → Prop) (r : Option Value) (h' : ev_H) : Array Value → State → Outcome → State → Prop := fun _ st oc t => oc = .returned r ∧ ev_U D cl cA tyL lo O h' t ∧ st.heap.size ≤ t.heap.size ∧ ∀ q, q < lo → t.heap[q]? = st.heap[q]?
def ev_rm (d wd mc ms : Nat) : Room := { frames := d, cells := mc, slots := ms, locals := wd }
-- a method does what F does: G is what every method may ask of what lies below
def ev_Met (l : Launch) (cl : List vw_C) (tyL : List FieldType) (G : Nat → (State → Prop) → Prop) (y : MethodName) (ws : List Cond) (d wd : Nat) (F : ev_F) : Prop :=
  ∀ (as : List Value) (h : ev_H) (r : Option Value) (h' : ev_H), F as h (r, h') → h.1 ≤ h'.1 ∧ h.2.1 ≤ h'.2.1 ∧
    ∀ (D : va_G) (cA : Nat → ClassId) (lo : Nat) (O : State → Prop), ev_St lo O → G lo O →
      Met l y ws (ev_rm d wd (h'.1 - h.1) (h'.2.1 - h.2.1)) (va_Pc as (ev_U D cl cA tyL lo O h)) (ev_Qc D cl cA tyL lo O r h') (h'.1 - h.1) (h'.2.1 - h.2.1) (fun q => lo ≤ q)
theorem ev_wd.put {D : va_G} {cl : List vw_C} {cA : Nat → ClassId} {lo : Nat} {h : ev_H} {H H1 : Heap} {a : Nat} {x : ev_E} (hw : ev_wd D cl cA lo h H) (ha : lo ≤ a) (z : H1.size = H.size) (oq : ∀ q : Nat, q ≠ a → H1[q]? = H[q]?) (hx : va_at D cl (a, ev_cv cA x) H1) : ev_wd D cl cA lo (ev_put h a x) H1 := by
  refine ⟨z.trans hw.1, fun b y hb => ?_⟩
  simp only [ev_put, ev_upd] at hb
  split at hb
  · rename_i e
    subst e
    cases hb
    exact ⟨ha, hx⟩
  · rename_i e
    obtain ⟨h1, h2⟩ := hw.2 b y hb
    exact ⟨h1, h2.kept (oq b e)⟩
theorem ev_wd.new {D : va_G} {cl : List vw_C} {cA : Nat → ClassId} {lo : Nat} {h : ev_H} {H H1 : Heap} {k : Nat} {x : ev_E} (hw : ev_wd D cl cA lo h H) (ha : lo ≤ H.size) (z : H1.size = H.size + 1) (oq : ∀ q : Nat, q < H.size → H1[q]? = H[q]?) (hx : va_at D cl (H.size, ev_cv cA x) H1) : ev_wd D cl cA lo (ev_new h k x) H1 := by
  refine ⟨by rw [z, hw.1]; rfl, fun b y hb => ?_⟩
  simp only [ev_new, ev_upd] at hb
  split at hb
  · rename_i e
    rw [← hw.1] at e
    subst e
    cases hb
    exact ⟨ha, hx⟩
  · obtain ⟨h1, h2⟩ := hw.2 b y hb
    exact ⟨h1, h2.kept (oq b h2.lt)⟩
section EVJ
variable (p : Program) (l : Launch) (e : Env) (R : Room) (s : State) (m : MethodId) (args : Array Value) (below : List Frame) (meth : Method) (c : Code) (D : va_G) (cl : List vw_C) (cA : Nat → ClassId) (lo : Nat) (b0 : Nat × Nat) (nL : Nat) (Q : State → Prop)
def ev_J (st : ev_S) : Prop := ∀ (H : Heap) (locs : List Loc) (ls : Array Slot), ev_wd D cl cA lo st.2.2.2 H → (∀ q ∈ locs, lo ≤ q.base) → (∀ q, q < lo → H[q]? = s.heap[q]?) → s.heap.size ≤ H.size → lo ≤ s.heap.size → ev_lv ls nL st.2.1 →
  W p l e R s m args below meth c H locs (st.2.2.2.1 - b0.1) (st.2.2.2.2.1 - b0.2) Q (F0 m st.1 ls st.2.2.1)
end EVJ
-- a step never takes room back
def ev_MO (op : ev_Op) : Prop := ∀ (L : ev_L) (stk : List Value) (h : ev_H), (∀ st' : ev_S, op L stk h (.inl st') → h.1 ≤ st'.2.2.2.1 ∧ h.2.1 ≤ st'.2.2.2.2.1) ∧ (∀ o : ev_O, op L stk h (.inr o) → h.1 ≤ o.2.1 ∧ h.2.1 ≤ o.2.2.1)
theorem ev_run_mono {C : ev_C} (hC : ∀ pc op, ev_find C pc = some op → ev_MO op) : ∀ (n : Nat) (st : ev_S) (o : ev_O), ev_run C n st o → st.2.2.2.1 ≤ o.2.1 ∧ st.2.2.2.2.1 ≤ o.2.2.1 := by
  intro n
  induction n with
  | zero => intro st o h; exact h.elim
  | succ n ih =>
    intro st o h
    obtain ⟨op, hop, h⟩ := h
    obtain ⟨m1, m2⟩ := hC _ _ hop st.2.1 st.2.2.1 st.2.2.2
    rcases h with ⟨st', e1, h⟩ | e1
    · obtain ⟨a1, a2⟩ := m1 st' e1
      obtain ⟨c1, c2⟩ := ih st' o h
      exact ⟨Nat.le_trans a1 c1, Nat.le_trans a2 c2⟩
    · exact m2 _ e1
-- what a walk knows of the method it stands in
def ev_X (p : Program) (s : State) (m : MethodId) (args : Array Value) (meth : Method) (c : Code) (cc : ByteArray) (nL : Nat) (ret : Option FieldType) (nm own : String) (Ts : List Cond) : Prop := p.tables.exec = Jvm.exec ∧ c.code = cc ∧ c.maxLocals = nL ∧ s.vm.findClass own = some m.cls ∧ (∀ w ∈ Ts, w.before args s = true) ∧ meth.sig.returnType = ret ∧ meth.locks = false ∧ meth.name = nm
abbrev ev_Q (below : List Frame) (args : Array Value) (s : State) (D : va_G) (cl : List vw_C) (cA : Nat → ClassId) (tyL : List FieldType) (lo : Nat) (O : State → Prop) (b0 : Nat × Nat) (o : ev_O) : State → Prop := MQ below (ev_Qc D cl cA tyL lo O o.1 o.2) args s (o.2.1 - b0.1) (o.2.2.1 - b0.2) (fun q => lo ≤ q)
-- what a step's proof may use
def ev_ctx (p : Program) (l : Launch) (e : Env) (R : Room) (s : State) (m : MethodId) (args : Array Value) (below : List Frame) (meth : Method) (c : Code) (cc : ByteArray) (nL : Nat) (ret : Option FieldType) (nm own : String) (Ts : List Cond) (D : va_G) (cl : List vw_C) (cA : Nat → ClassId) (tyL : List FieldType) (lo : Nat) (O : State → Prop) (G : Nat → (State → Prop) → Prop) (d wd : Nat) : Prop :=
  ev_X p s m args meth c cc nL ret nm own Ts ∧ va_K D cl (ev_ty cA tyL) s ∧ O s ∧ ev_St lo O ∧ G lo O ∧ d ≤ R.frames ∧ wd ≤ R.locals
-- a step is sound: with the next state sound, this one is (whatever is awaited); at an end, the end is the one that is awaited
def ev_OKs (p : Program) (l : Launch) (e : Env) (R : Room) (s : State) (m : MethodId) (args : Array Value) (below : List Frame) (meth : Method) (c : Code) (D : va_G) (cl : List vw_C) (cA : Nat → ClassId) (lo : Nat) (b0 : Nat × Nat) (nL : Nat) (pc : Nat) (op : ev_Op) : Prop := ∀ (L : ev_L) (stk : List Value) (h : ev_H), b0.1 ≤ h.1 → b0.2 ≤ h.2.1 →
  ∀ (Q : State → Prop) (st' : ev_S), op L stk h (.inl st') → st'.2.2.2.1 - b0.1 ≤ R.cells → st'.2.2.2.2.1 - b0.2 ≤ R.slots → ev_J p l e R s m args below meth c D cl cA lo b0 nL Q st' → ev_J p l e R s m args below meth c D cl cA lo b0 nL Q (pc, L, stk, h)
def ev_OKe (p : Program) (l : Launch) (e : Env) (R : Room) (s : State) (m : MethodId) (args : Array Value) (below : List Frame) (meth : Method) (c : Code) (D : va_G) (cl : List vw_C) (cA : Nat → ClassId) (lo : Nat) (b0 : Nat × Nat) (nL : Nat) (Q : State → Prop) (oE : ev_O) (pc : Nat) (op : ev_Op) : Prop := ∀ (L : ev_L) (stk : List Value) (h : ev_H), b0.1 ≤ h.1 → b0.2 ≤ h.2.1 →
  op L stk h (.inr oE) → ev_J p l e R s m args below meth c D cl cA lo b0 nL Q (pc, L, stk, h)
def ev_Good (l : Launch) (cl : List vw_C) (tyL : List FieldType) (G : Nat → (State → Prop) → Prop) (cc : ByteArray) (nL : Nat) (ret : Option FieldType) (nm own : String) (Ts : List Cond) (d wd pc : Nat) (op : ev_Op) : Prop := ev_MO op ∧
  ∀ (p : Program) (e : Env) (R : Room) (s : State) (m : MethodId) (args : Array Value) (below : List Frame) (meth : Method) (c : Code) (D : va_G) (cA : Nat → ClassId) (lo : Nat) (O : State → Prop) (b0 : Nat × Nat) (oE : ev_O),
    ev_ctx p l e R s m args below meth c cc nL ret nm own Ts D cl cA tyL lo O G d wd → ev_OKs p l e R s m args below meth c D cl cA lo b0 nL pc op ∧ ev_OKe p l e R s m args below meth c D cl cA lo b0 nL (ev_Q below args s D cl cA tyL lo O b0 oE) oE pc op
theorem ev_run_ok {p : Program} {l : Launch} {e : Env} {R : Room} {s : State} {m : MethodId} {args : Array Value} {below : List Frame} {meth : Method} {c : Code} {D : va_G} {cl : List vw_C} {cA : Nat → ClassId} {lo : Nat} {b0 : Nat × Nat} {nL : Nat} {Q : State → Prop} {C : ev_C} {oE : ev_O}
    (hM : ∀ pc op, ev_find C pc = some op → ev_MO op) (hC : ∀ pc op, ev_find C pc = some op → ev_OKs p l e R s m args below meth c D cl cA lo b0 nL pc op) (hE : ∀ pc op, ev_find C pc = some op → ev_OKe p l e R s m args below meth c D cl cA lo b0 nL Q oE pc op) (h1 : oE.2.1 - b0.1 ≤ R.cells) (h2 : oE.2.2.1 - b0.2 ≤ R.slots) :
    ∀ (n : Nat) (st : ev_S), b0.1 ≤ st.2.2.2.1 → b0.2 ≤ st.2.2.2.2.1 → ev_run C n st oE → ev_J p l e R s m args below meth c D cl cA lo b0 nL Q st := by
  intro n
  induction n with
  | zero => intro st _ _ h; exact h.elim
  | succ n ih =>
    intro st g1 g2 h
    obtain ⟨op, hop, h⟩ := h
    obtain ⟨m1, m2⟩ := hM _ _ hop st.2.1 st.2.2.1 st.2.2.2
    rcases h with ⟨st', e1, h⟩ | e1
    · obtain ⟨a1, a2⟩ := m1 st' e1
      obtain ⟨c1, c2⟩ := ev_run_mono hM n st' oE h
      exact hC _ _ hop st.2.1 st.2.2.1 st.2.2.2 g1 g2 Q st' e1 (by omega) (by omega) (ih st' (by omega) (by omega) h)
    · exact hE _ _ hop st.2.1 st.2.2.1 st.2.2.2 g1 g2 e1
def ev_AllG (P : Nat → ev_Op → Prop) : ev_C → Prop
  | [] => True
  | (q, o) :: r => P q o ∧ ev_AllG P r
theorem ev_AllG.get {P : Nat → ev_Op → Prop} : ∀ {C : ev_C}, ev_AllG P C → ∀ pc op, ev_find C pc = some op → P pc op := by
  intro C
  induction C with
  | nil => intro _ pc op h; simp [ev_find] at h
  | cons x r ih =>
    intro hA pc op h
    obtain ⟨q, o⟩ := x
    simp only [ev_find] at h
    split at h
    · rename_i e
      cases h
      have e' := Nat.eq_of_beq_eq_true e
      subst e'
      exact hA.1
    · exact ih hA.2 pc op h
theorem ev_sound {l : Launch} {cl : List vw_C} {tyL : List FieldType} {G : Nat → (State → Prop) → Prop} {cc : ByteArray} {nL : Nat} {ret : Option FieldType} {y : MethodName} {Ts : List Cond} {d wd : Nat} {C : ev_C} (hy : plainName y.cls = true)
    (hA : ev_AllG (ev_Good l cl tyL G cc nL ret y.name y.cls Ts d wd) C) : ev_Met l cl tyL G y (Cond.code y cc nL ret :: Ts) d wd (ev_met C nL) := by
  intro as h r h' hF
  obtain ⟨hlen, n, hF⟩ := hF
  have hM : ∀ pc op, ev_find C pc = some op → ev_MO op := fun pc op hf => (hA.get pc op hf).1
  obtain ⟨g1, g2⟩ := ev_run_mono hM _ _ _ hF
  refine ⟨g1, g2, fun D cA lo O hSt hG => ?_⟩
  refine Met.ofW (cc := cc) (maxL := nL) (ret := ret) hy rfl ?_
  intro p e s m args below meth c s₁ B hml hv
  obtain ⟨rfl, hwd, hK, hO, hlo⟩ := hv
  have hts0 := atoms_spec (ws := Cond.code y cc nL ret :: Ts) B.pre
  have hts : ∀ w ∈ Ts, w.before as.toArray s = true := fun w hw => hts0 w (List.mem_cons_of_mem _ hw)
  have hown : s.vm.findClass y.cls = some m.cls := findClass_of_methodNamed B.named
  have hnm : meth.name = y.name := (name_of_methodNamed B.named B.method).1
  have hctx : ev_ctx p l e (ev_rm d wd (h'.1 - h.1) (h'.2.1 - h.2.1)) s m as.toArray below meth c cc nL ret y.name y.cls Ts D cl cA tyL lo O G d wd := ⟨⟨B.exec, B.bytes, hml, hown, hts, B.returns, B.notSynchronized, hnm⟩, hK, hO, hSt, hG, Nat.le_refl _, Nat.le_refl _⟩
  have hall := fun pc op hf => (hA.get pc op hf).2 p e (ev_rm d wd (h'.1 - h.1) (h'.2.1 - h.2.1)) s m as.toArray below meth c D cA lo O (h.1, h.2.1) (r, h') hctx
  have hrun := ev_run_ok (b0 := (h.1, h.2.1)) (oE := (r, h')) hM (fun pc op hf => (hall pc op hf).1) (fun pc op hf => (hall pc op hf).2) (Nat.le_refl _) (Nat.le_refl _) n _ (Nat.le_refl _) (Nat.le_refl _) hF
  have hw := hrun s.heap [] ((lg_sl as ++ List.replicate (nL - (lg_sl as).length) Slot.unset).toArray) hwd (fun q hq => by cases hq) (fun q _ => rfl) (Nat.le_refl _) hlo (ev_lv.entry hlen)
  rw [lg_entry_eq]
  simp only [Nat.sub_self] at hw
  exact hw
end
section
/-! The evaluator's steps (written by wip/whole/genops.py), each with the row that makes it sound. -/
section OPS
variable {l : Launch} {cl : List vw_C} {tyL : List FieldType} {G : Nat → (State → Prop) → Prop} {cc : ByteArray} {nL : Nat} {ret : Option FieldType} {nm own : String} {Ts : List Cond} {d wd pc : Nat}
-- steps that leave locals and heap as they are
theorem ev_pure {f : ev_Fn} (hp : ∀ (L : ev_L) (stk : List Value) (h : ev_H) (x : ev_S ⊕ ev_O), f L stk h = some x → ∃ (nx : Nat) (stk' : List Value), x = .inl (nx, L, stk', h) ∧
      ∀ (p : Program) (e : Env) (R : Room) (s : State) (m : MethodId) (args : Array Value) (below : List Frame) (meth : Method) (c : Code) (D : va_G) (cA : Nat → ClassId) (lo : Nat) (O : State → Prop), ev_ctx p l e R s m args below meth c cc nL ret nm own Ts D cl cA tyL lo O G d wd →
        ∀ (H : Heap) (locs : List Loc) (cells slots : Nat) (ls : Array Slot) (Q : State → Prop), ev_wd D cl cA lo h H → (∀ q, q < lo → H[q]? = s.heap[q]?) → ev_lv ls nL L → W p l e R s m args below meth c H locs cells slots Q (F0 m nx ls stk') → W p l e R s m args below meth c H locs cells slots Q (F0 m pc ls stk)) :
    ev_Good l cl tyL G cc nL ret nm own Ts d wd pc (ev_fn f) := by
  refine ⟨fun L stk h => ⟨fun st' e1 => ?_, fun o e1 => ?_⟩, fun p e R s m args below meth c D cA lo O b0 oE X => ⟨fun L stk h g1 g2 Q st' e1 r1 r2 k => ?_, fun L stk h g1 g2 e1 => ?_⟩⟩
  · obtain ⟨nx, stk', hx, -⟩ := hp L stk h _ e1
    cases hx
    exact ⟨Nat.le_refl _, Nat.le_refl _⟩
  · obtain ⟨nx, stk', hx, -⟩ := hp L stk h _ e1
    cases hx
  · obtain ⟨nx, stk', hx, hw⟩ := hp L stk h _ e1
    cases hx
    intro H locs ls a1 a2 a3 a4 a5 a6
    exact hw p e R s m args below meth c D cA lo O X H locs _ _ ls _ a1 a3 a6 (k H locs ls a1 a2 a3 a4 a5 a6)
  · obtain ⟨nx, stk', hx, -⟩ := hp L stk h _ e1
    cases hx

def ev_iadd (nx : Nat) : ev_Fn := fun L stk h => match stk with
  | .int y :: .int x :: r => some (.inl (nx, L, .int (x + y) :: r, h))
  | _ => none
theorem ok_iadd (hd : decode cc pc = .ok (.iadd, 1)) : ev_Good l cl tyL G cc nL ret nm own Ts d wd pc (ev_fn (ev_iadd (pc + 1))) := by
  refine ev_pure fun L stk h x hx => ?_
  unfold ev_iadd at hx
  split at hx
  · cases hx; exact ⟨_, _, rfl, fun p e R s m args below meth c D cA lo O X H locs cells slots ls Q hw ho hl k => lv_iadd X.1.1 X.1.2.1 hd k⟩
  · cases hx
def ev_isub (nx : Nat) : ev_Fn := fun L stk h => match stk with
  | .int y :: .int x :: r => some (.inl (nx, L, .int (x - y) :: r, h))
  | _ => none
theorem ok_isub (hd : decode cc pc = .ok (.isub, 1)) : ev_Good l cl tyL G cc nL ret nm own Ts d wd pc (ev_fn (ev_isub (pc + 1))) := by
  refine ev_pure fun L stk h x hx => ?_
  unfold ev_isub at hx
  split at hx
  · cases hx; exact ⟨_, _, rfl, fun p e R s m args below meth c D cA lo O X H locs cells slots ls Q hw ho hl k => lv_isub X.1.1 X.1.2.1 hd k⟩
  · cases hx
def ev_imul (nx : Nat) : ev_Fn := fun L stk h => match stk with
  | .int y :: .int x :: r => some (.inl (nx, L, .int (x * y) :: r, h))
  | _ => none
theorem ok_imul (hd : decode cc pc = .ok (.imul, 1)) : ev_Good l cl tyL G cc nL ret nm own Ts d wd pc (ev_fn (ev_imul (pc + 1))) := by
  refine ev_pure fun L stk h x hx => ?_
  unfold ev_imul at hx
  split at hx
  · cases hx; exact ⟨_, _, rfl, fun p e R s m args below meth c D cA lo O X H locs cells slots ls Q hw ho hl k => lv_imul X.1.1 X.1.2.1 hd k⟩
  · cases hx
def ev_iand (nx : Nat) : ev_Fn := fun L stk h => match stk with
  | .int y :: .int x :: r => some (.inl (nx, L, .int (x &&& y) :: r, h))
  | _ => none
theorem ok_iand (hd : decode cc pc = .ok (.iand, 1)) : ev_Good l cl tyL G cc nL ret nm own Ts d wd pc (ev_fn (ev_iand (pc + 1))) := by
  refine ev_pure fun L stk h x hx => ?_
  unfold ev_iand at hx
  split at hx
  · cases hx; exact ⟨_, _, rfl, fun p e R s m args below meth c D cA lo O X H locs cells slots ls Q hw ho hl k => lv_iand X.1.1 X.1.2.1 hd k⟩
  · cases hx
def ev_ior (nx : Nat) : ev_Fn := fun L stk h => match stk with
  | .int y :: .int x :: r => some (.inl (nx, L, .int (x ||| y) :: r, h))
  | _ => none
theorem ok_ior (hd : decode cc pc = .ok (.ior, 1)) : ev_Good l cl tyL G cc nL ret nm own Ts d wd pc (ev_fn (ev_ior (pc + 1))) := by
  refine ev_pure fun L stk h x hx => ?_
  unfold ev_ior at hx
  split at hx
  · cases hx; exact ⟨_, _, rfl, fun p e R s m args below meth c D cA lo O X H locs cells slots ls Q hw ho hl k => lv_ior X.1.1 X.1.2.1 hd k⟩
  · cases hx
def ev_ixor (nx : Nat) : ev_Fn := fun L stk h => match stk with
  | .int y :: .int x :: r => some (.inl (nx, L, .int (x ^^^ y) :: r, h))
  | _ => none
theorem ok_ixor (hd : decode cc pc = .ok (.ixor, 1)) : ev_Good l cl tyL G cc nL ret nm own Ts d wd pc (ev_fn (ev_ixor (pc + 1))) := by
  refine ev_pure fun L stk h x hx => ?_
  unfold ev_ixor at hx
  split at hx
  · cases hx; exact ⟨_, _, rfl, fun p e R s m args below meth c D cA lo O X H locs cells slots ls Q hw ho hl k => lv_ixor X.1.1 X.1.2.1 hd k⟩
  · cases hx
def ev_ishl (nx : Nat) : ev_Fn := fun L stk h => match stk with
  | .int y :: .int x :: r => some (.inl (nx, L, .int (x <<< (y &&& 31)) :: r, h))
  | _ => none
theorem ok_ishl (hd : decode cc pc = .ok (.ishl, 1)) : ev_Good l cl tyL G cc nL ret nm own Ts d wd pc (ev_fn (ev_ishl (pc + 1))) := by
  refine ev_pure fun L stk h x hx => ?_
  unfold ev_ishl at hx
  split at hx
  · cases hx; exact ⟨_, _, rfl, fun p e R s m args below meth c D cA lo O X H locs cells slots ls Q hw ho hl k => lv_ishl X.1.1 X.1.2.1 hd k⟩
  · cases hx
def ev_ishr (nx : Nat) : ev_Fn := fun L stk h => match stk with
  | .int y :: .int x :: r => some (.inl (nx, L, .int (x >>> (y &&& 31)) :: r, h))
  | _ => none
theorem ok_ishr (hd : decode cc pc = .ok (.ishr, 1)) : ev_Good l cl tyL G cc nL ret nm own Ts d wd pc (ev_fn (ev_ishr (pc + 1))) := by
  refine ev_pure fun L stk h x hx => ?_
  unfold ev_ishr at hx
  split at hx
  · cases hx; exact ⟨_, _, rfl, fun p e R s m args below meth c D cA lo O X H locs cells slots ls Q hw ho hl k => lv_ishr X.1.1 X.1.2.1 hd k⟩
  · cases hx
def ev_iushr (nx : Nat) : ev_Fn := fun L stk h => match stk with
  | .int y :: .int x :: r => some (.inl (nx, L, .int ((x.toUInt32 >>> (y.toUInt32 &&& Int32.toUInt32 31)).toInt32) :: r, h))
  | _ => none
theorem ok_iushr (hd : decode cc pc = .ok (.iushr, 1)) : ev_Good l cl tyL G cc nL ret nm own Ts d wd pc (ev_fn (ev_iushr (pc + 1))) := by
  refine ev_pure fun L stk h x hx => ?_
  unfold ev_iushr at hx
  split at hx
  · cases hx; exact ⟨_, _, rfl, fun p e R s m args below meth c D cA lo O X H locs cells slots ls Q hw ho hl k => lv_iushr X.1.1 X.1.2.1 hd rfl k⟩
  · cases hx
def ev_idiv (nx : Nat) : ev_Fn := fun L stk h => match stk with
  | .int y :: .int x :: r => if ¬ y = 0 then some (.inl (nx, L, .int (x / y) :: r, h)) else none
  | _ => none
theorem ok_idiv (hd : decode cc pc = .ok (.idiv, 1)) : ev_Good l cl tyL G cc nL ret nm own Ts d wd pc (ev_fn (ev_idiv (pc + 1))) := by
  refine ev_pure fun L stk h x hx => ?_
  unfold ev_idiv at hx
  split at hx
  · split at hx
    · rename_i hg; cases hx; exact ⟨_, _, rfl, fun p e R s m args below meth c D cA lo O X H locs cells slots ls Q hw ho hl k => lv_idiv X.1.1 X.1.2.1 hd hg k⟩
    · cases hx
  · cases hx
def ev_irem (nx : Nat) : ev_Fn := fun L stk h => match stk with
  | .int y :: .int x :: r => if ¬ y = 0 then some (.inl (nx, L, .int (x - x / y * y) :: r, h)) else none
  | _ => none
theorem ok_irem (hd : decode cc pc = .ok (.irem, 1)) : ev_Good l cl tyL G cc nL ret nm own Ts d wd pc (ev_fn (ev_irem (pc + 1))) := by
  refine ev_pure fun L stk h x hx => ?_
  unfold ev_irem at hx
  split at hx
  · split at hx
    · rename_i hg; cases hx; exact ⟨_, _, rfl, fun p e R s m args below meth c D cA lo O X H locs cells slots ls Q hw ho hl k => lv_irem X.1.1 X.1.2.1 hd hg k⟩
    · cases hx
  · cases hx
def ev_ineg (nx : Nat) : ev_Fn := fun L stk h => match stk with
  | .int x :: r => some (.inl (nx, L, .int (-x) :: r, h))
  | _ => none
theorem ok_ineg (hd : decode cc pc = .ok (.ineg, 1)) : ev_Good l cl tyL G cc nL ret nm own Ts d wd pc (ev_fn (ev_ineg (pc + 1))) := by
  refine ev_pure fun L stk h x hx => ?_
  unfold ev_ineg at hx
  split at hx
  · cases hx; exact ⟨_, _, rfl, fun p e R s m args below meth c D cA lo O X H locs cells slots ls Q hw ho hl k => lv_ineg X.1.1 X.1.2.1 hd k⟩
  · cases hx
def ev_ladd (nx : Nat) : ev_Fn := fun L stk h => match stk with
  | .long y :: .long x :: r => some (.inl (nx, L, .long (x + y) :: r, h))
  | _ => none
theorem ok_ladd (hd : decode cc pc = .ok (.ladd, 1)) : ev_Good l cl tyL G cc nL ret nm own Ts d wd pc (ev_fn (ev_ladd (pc + 1))) := by
  refine ev_pure fun L stk h x hx => ?_
  unfold ev_ladd at hx
  split at hx
  · cases hx; exact ⟨_, _, rfl, fun p e R s m args below meth c D cA lo O X H locs cells slots ls Q hw ho hl k => lv_ladd X.1.1 X.1.2.1 hd k⟩
  · cases hx
def ev_lsub (nx : Nat) : ev_Fn := fun L stk h => match stk with
  | .long y :: .long x :: r => some (.inl (nx, L, .long (x - y) :: r, h))
  | _ => none
theorem ok_lsub (hd : decode cc pc = .ok (.lsub, 1)) : ev_Good l cl tyL G cc nL ret nm own Ts d wd pc (ev_fn (ev_lsub (pc + 1))) := by
  refine ev_pure fun L stk h x hx => ?_
  unfold ev_lsub at hx
  split at hx
  · cases hx; exact ⟨_, _, rfl, fun p e R s m args below meth c D cA lo O X H locs cells slots ls Q hw ho hl k => lv_lsub X.1.1 X.1.2.1 hd k⟩
  · cases hx
def ev_lmul (nx : Nat) : ev_Fn := fun L stk h => match stk with
  | .long y :: .long x :: r => some (.inl (nx, L, .long (x * y) :: r, h))
  | _ => none
theorem ok_lmul (hd : decode cc pc = .ok (.lmul, 1)) : ev_Good l cl tyL G cc nL ret nm own Ts d wd pc (ev_fn (ev_lmul (pc + 1))) := by
  refine ev_pure fun L stk h x hx => ?_
  unfold ev_lmul at hx
  split at hx
  · cases hx; exact ⟨_, _, rfl, fun p e R s m args below meth c D cA lo O X H locs cells slots ls Q hw ho hl k => lv_lmul X.1.1 X.1.2.1 hd k⟩
  · cases hx
def ev_land (nx : Nat) : ev_Fn := fun L stk h => match stk with
  | .long y :: .long x :: r => some (.inl (nx, L, .long (x &&& y) :: r, h))
  | _ => none
theorem ok_land (hd : decode cc pc = .ok (.land, 1)) : ev_Good l cl tyL G cc nL ret nm own Ts d wd pc (ev_fn (ev_land (pc + 1))) := by
  refine ev_pure fun L stk h x hx => ?_
  unfold ev_land at hx
  split at hx
  · cases hx; exact ⟨_, _, rfl, fun p e R s m args below meth c D cA lo O X H locs cells slots ls Q hw ho hl k => lv_land X.1.1 X.1.2.1 hd k⟩
  · cases hx
def ev_lor (nx : Nat) : ev_Fn := fun L stk h => match stk with
  | .long y :: .long x :: r => some (.inl (nx, L, .long (x ||| y) :: r, h))
  | _ => none
theorem ok_lor (hd : decode cc pc = .ok (.lor, 1)) : ev_Good l cl tyL G cc nL ret nm own Ts d wd pc (ev_fn (ev_lor (pc + 1))) := by
  refine ev_pure fun L stk h x hx => ?_
  unfold ev_lor at hx
  split at hx
  · cases hx; exact ⟨_, _, rfl, fun p e R s m args below meth c D cA lo O X H locs cells slots ls Q hw ho hl k => lv_lor X.1.1 X.1.2.1 hd k⟩
  · cases hx
def ev_lxor (nx : Nat) : ev_Fn := fun L stk h => match stk with
  | .long y :: .long x :: r => some (.inl (nx, L, .long (x ^^^ y) :: r, h))
  | _ => none
theorem ok_lxor (hd : decode cc pc = .ok (.lxor, 1)) : ev_Good l cl tyL G cc nL ret nm own Ts d wd pc (ev_fn (ev_lxor (pc + 1))) := by
  refine ev_pure fun L stk h x hx => ?_
  unfold ev_lxor at hx
  split at hx
  · cases hx; exact ⟨_, _, rfl, fun p e R s m args below meth c D cA lo O X H locs cells slots ls Q hw ho hl k => lv_lxor X.1.1 X.1.2.1 hd k⟩
  · cases hx
def ev_lshl (nx : Nat) : ev_Fn := fun L stk h => match stk with
  | .int y :: .long x :: r => some (.inl (nx, L, .long (x <<< (y.toInt64 &&& 63)) :: r, h))
  | _ => none
theorem ok_lshl (hd : decode cc pc = .ok (.lshl, 1)) : ev_Good l cl tyL G cc nL ret nm own Ts d wd pc (ev_fn (ev_lshl (pc + 1))) := by
  refine ev_pure fun L stk h x hx => ?_
  unfold ev_lshl at hx
  split at hx
  · cases hx; exact ⟨_, _, rfl, fun p e R s m args below meth c D cA lo O X H locs cells slots ls Q hw ho hl k => lv_lshl X.1.1 X.1.2.1 hd rfl k⟩
  · cases hx
def ev_lshr (nx : Nat) : ev_Fn := fun L stk h => match stk with
  | .int y :: .long x :: r => some (.inl (nx, L, .long (x >>> (y.toInt64 &&& 63)) :: r, h))
  | _ => none
theorem ok_lshr (hd : decode cc pc = .ok (.lshr, 1)) : ev_Good l cl tyL G cc nL ret nm own Ts d wd pc (ev_fn (ev_lshr (pc + 1))) := by
  refine ev_pure fun L stk h x hx => ?_
  unfold ev_lshr at hx
  split at hx
  · cases hx; exact ⟨_, _, rfl, fun p e R s m args below meth c D cA lo O X H locs cells slots ls Q hw ho hl k => lv_lshr X.1.1 X.1.2.1 hd rfl k⟩
  · cases hx
def ev_lushr (nx : Nat) : ev_Fn := fun L stk h => match stk with
  | .int y :: .long x :: r => some (.inl (nx, L, .long ((x.toUInt64 >>> (y.toInt64.toUInt64 &&& Int64.toUInt64 63)).toInt64) :: r, h))
  | _ => none
theorem ok_lushr (hd : decode cc pc = .ok (.lushr, 1)) : ev_Good l cl tyL G cc nL ret nm own Ts d wd pc (ev_fn (ev_lushr (pc + 1))) := by
  refine ev_pure fun L stk h x hx => ?_
  unfold ev_lushr at hx
  split at hx
  · cases hx; exact ⟨_, _, rfl, fun p e R s m args below meth c D cA lo O X H locs cells slots ls Q hw ho hl k => lv_lushr X.1.1 X.1.2.1 hd rfl k⟩
  · cases hx
def ev_lcmp (nx : Nat) : ev_Fn := fun L stk h => match stk with
  | .long y :: .long x :: r => some (.inl (nx, L, .int (lg_cmp x y) :: r, h))
  | _ => none
theorem ok_lcmp (hd : decode cc pc = .ok (.lcmp, 1)) : ev_Good l cl tyL G cc nL ret nm own Ts d wd pc (ev_fn (ev_lcmp (pc + 1))) := by
  refine ev_pure fun L stk h x hx => ?_
  unfold ev_lcmp at hx
  split at hx
  · cases hx; exact ⟨_, _, rfl, fun p e R s m args below meth c D cA lo O X H locs cells slots ls Q hw ho hl k => W.lcmp X.1.1 X.1.2.1 hd k⟩
  · cases hx
def ev_i2l (nx : Nat) : ev_Fn := fun L stk h => match stk with
  | .int x :: r => some (.inl (nx, L, .long x.toInt64 :: r, h))
  | _ => none
theorem ok_i2l (hd : decode cc pc = .ok (.i2l, 1)) : ev_Good l cl tyL G cc nL ret nm own Ts d wd pc (ev_fn (ev_i2l (pc + 1))) := by
  refine ev_pure fun L stk h x hx => ?_
  unfold ev_i2l at hx
  split at hx
  · cases hx; exact ⟨_, _, rfl, fun p e R s m args below meth c D cA lo O X H locs cells slots ls Q hw ho hl k => lv_i2l X.1.1 X.1.2.1 hd rfl k⟩
  · cases hx
def ev_l2i (nx : Nat) : ev_Fn := fun L stk h => match stk with
  | .long x :: r => some (.inl (nx, L, .int x.toInt32 :: r, h))
  | _ => none
theorem ok_l2i (hd : decode cc pc = .ok (.l2i, 1)) : ev_Good l cl tyL G cc nL ret nm own Ts d wd pc (ev_fn (ev_l2i (pc + 1))) := by
  refine ev_pure fun L stk h x hx => ?_
  unfold ev_l2i at hx
  split at hx
  · cases hx; exact ⟨_, _, rfl, fun p e R s m args below meth c D cA lo O X H locs cells slots ls Q hw ho hl k => lv_l2i X.1.1 X.1.2.1 hd rfl k⟩
  · cases hx
def ev_i2b (nx : Nat) : ev_Fn := fun L stk h => match stk with
  | .int x :: r => some (.inl (nx, L, .int x.toInt8.toInt32 :: r, h))
  | _ => none
theorem ok_i2b (hd : decode cc pc = .ok (.i2b, 1)) : ev_Good l cl tyL G cc nL ret nm own Ts d wd pc (ev_fn (ev_i2b (pc + 1))) := by
  refine ev_pure fun L stk h x hx => ?_
  unfold ev_i2b at hx
  split at hx
  · cases hx; exact ⟨_, _, rfl, fun p e R s m args below meth c D cA lo O X H locs cells slots ls Q hw ho hl k => lv_i2b X.1.1 X.1.2.1 hd rfl k⟩
  · cases hx
def ev_i2c (nx : Nat) : ev_Fn := fun L stk h => match stk with
  | .int x :: r => some (.inl (nx, L, .int (x.toUInt32 % 65536).toInt32 :: r, h))
  | _ => none
theorem ok_i2c (hd : decode cc pc = .ok (.i2c, 1)) : ev_Good l cl tyL G cc nL ret nm own Ts d wd pc (ev_fn (ev_i2c (pc + 1))) := by
  refine ev_pure fun L stk h x hx => ?_
  unfold ev_i2c at hx
  split at hx
  · cases hx; exact ⟨_, _, rfl, fun p e R s m args below meth c D cA lo O X H locs cells slots ls Q hw ho hl k => lv_i2c X.1.1 X.1.2.1 hd rfl k⟩
  · cases hx
def ev_ci (v : Int32) (nx : Nat) : ev_Fn := fun L stk h => some (.inl (nx, L, .int v :: stk, h))
theorem ok_iconst {z : Int} {v : Int32} (hd : decode cc pc = .ok (.iconst z, 1)) (hv : Int32.ofInt z = v) : ev_Good l cl tyL G cc nL ret nm own Ts d wd pc (ev_fn (ev_ci v (pc + 1))) := by
  refine ev_pure fun L stk h x hx => ?_
  unfold ev_ci at hx
  cases hx; exact ⟨_, _, rfl, fun p e R s m args below meth c D cA lo O X H locs cells slots ls Q hw ho hl k => lv_iconst X.1.1 X.1.2.1 hd hv k⟩
theorem ok_bipush {z : Int} {v : Int32} (hd : decode cc pc = .ok (.bipush z, 2)) (hv : (Int8.ofInt z).toInt32 = v) : ev_Good l cl tyL G cc nL ret nm own Ts d wd pc (ev_fn (ev_ci v (pc + 2))) := by
  refine ev_pure fun L stk h x hx => ?_
  unfold ev_ci at hx
  cases hx; exact ⟨_, _, rfl, fun p e R s m args below meth c D cA lo O X H locs cells slots ls Q hw ho hl k => lv_bipush X.1.1 X.1.2.1 hd hv k⟩
theorem ok_sipush {z : Int} {v : Int32} (hd : decode cc pc = .ok (.sipush z, 3)) (hv : (Int16.ofInt z).toInt32 = v) : ev_Good l cl tyL G cc nL ret nm own Ts d wd pc (ev_fn (ev_ci v (pc + 3))) := by
  refine ev_pure fun L stk h x hx => ?_
  unfold ev_ci at hx
  cases hx; exact ⟨_, _, rfl, fun p e R s m args below meth c D cA lo O X H locs cells slots ls Q hw ho hl k => lv_sipush X.1.1 X.1.2.1 hd hv k⟩
theorem ok_ldc {ix : Nat} {v : Int32} (hw : Cond.constant own ix v ∈ Ts) (hd : decode cc pc = .ok (.ldc ix, 2)) : ev_Good l cl tyL G cc nL ret nm own Ts d wd pc (ev_fn (ev_ci v (pc + 2))) := by
  refine ev_pure fun L stk h x hx => ?_
  unfold ev_ci at hx
  cases hx; exact ⟨_, _, rfl, fun p e R s m args below meth c D cA lo O X H locs cells slots ls Q hw' ho hl k => lv_ldc X.1.1 X.1.2.1 X.1.2.2.2.1 (X.1.2.2.2.2.1 _ hw) hd k⟩
def ev_cl (v : Int64) (nx : Nat) : ev_Fn := fun L stk h => some (.inl (nx, L, .long v :: stk, h))
theorem ok_lconst {z : Fin 2} {v : Int64} (hd : decode cc pc = .ok (.lconst z, 1)) (hv : Int64.ofNat (z : Nat) = v) : ev_Good l cl tyL G cc nL ret nm own Ts d wd pc (ev_fn (ev_cl v (pc + 1))) := by
  refine ev_pure fun L stk h x hx => ?_
  unfold ev_cl at hx
  cases hx; exact ⟨_, _, rfl, fun p e R s m args below meth c D cA lo O X H locs cells slots ls Q hw ho hl k => lv_lconst X.1.1 X.1.2.1 hd hv k⟩
theorem ok_ldc2 {ix : Nat} {v : Int64} (hw : Cond.constantLong own ix v ∈ Ts) (hd : decode cc pc = .ok (.ldc2_w ix, 3)) : ev_Good l cl tyL G cc nL ret nm own Ts d wd pc (ev_fn (ev_cl v (pc + 3))) := by
  refine ev_pure fun L stk h x hx => ?_
  unfold ev_cl at hx
  cases hx; exact ⟨_, _, rfl, fun p e R s m args below meth c D cA lo O X H locs cells slots ls Q hw' ho hl k => lv_ldc2 X.1.1 X.1.2.1 X.1.2.2.2.1 (X.1.2.2.2.2.1 _ hw) hd k⟩
def ev_null  (nx : Nat) : ev_Fn := fun L stk h => some (.inl (nx, L, .null :: stk, h))
theorem ok_null (hd : decode cc pc = .ok (.aconst_null, 1)) : ev_Good l cl tyL G cc nL ret nm own Ts d wd pc (ev_fn (ev_null (pc + 1))) := by
  refine ev_pure fun L stk h x hx => ?_
  unfold ev_null at hx
  cases hx; exact ⟨_, _, rfl, fun p e R s m args below meth c D cA lo O X H locs cells slots ls Q hw ho hl k => lv_null X.1.1 X.1.2.1 hd k⟩
def ev_goto (nx : Nat) : ev_Fn := fun L stk h => some (.inl (nx, L, stk, h))
theorem ok_goto {off : Int} {tgt : Nat} (hd : decode cc pc = .ok (.goto off, 3)) (ht : (pc : Int) + off = (tgt : Int)) : ev_Good l cl tyL G cc nL ret nm own Ts d wd pc (ev_fn (ev_goto tgt)) := by
  refine ev_pure fun L stk h x hx => ?_
  unfold ev_goto at hx
  cases hx; exact ⟨_, _, rfl, fun p e R s m args below meth c D cA lo O X H locs cells slots ls Q hw ho hl k => lv_goto X.1.1 X.1.2.1 hd ht k⟩
def ev_dup (nx : Nat) : ev_Fn := fun L stk h => match stk with
  | a :: r => if a.category = 1 then some (.inl (nx, L, a :: a :: r, h)) else none
  | _ => none
theorem ok_dup (hd : decode cc pc = .ok (.dup, 1)) : ev_Good l cl tyL G cc nL ret nm own Ts d wd pc (ev_fn (ev_dup (pc + 1))) := by
  refine ev_pure fun L stk h x hx => ?_
  unfold ev_dup at hx
  split at hx
  · split at hx
    · rename_i hg; cases hx; exact ⟨_, _, rfl, fun p e R s m args below meth c D cA lo O X H locs cells slots ls Q hw ho hl k => lv_dup X.1.1 X.1.2.1 hd hg k⟩
    · cases hx
  · cases hx
def ev_pop (nx : Nat) : ev_Fn := fun L stk h => match stk with
  | a :: r => if a.category = 1 then some (.inl (nx, L, r, h)) else none
  | _ => none
theorem ok_pop (hd : decode cc pc = .ok (.pop, 1)) : ev_Good l cl tyL G cc nL ret nm own Ts d wd pc (ev_fn (ev_pop (pc + 1))) := by
  refine ev_pure fun L stk h x hx => ?_
  unfold ev_pop at hx
  split at hx
  · split at hx
    · rename_i hg; cases hx; exact ⟨_, _, rfl, fun p e R s m args below meth c D cA lo O X H locs cells slots ls Q hw ho hl k => lv_pop X.1.1 X.1.2.1 hd hg k⟩
    · cases hx
  · cases hx
def ev_dup_x1 (nx : Nat) : ev_Fn := fun L stk h => match stk with
  | a :: b :: r => if a.category = 1 ∧ b.category = 1 then some (.inl (nx, L, a :: b :: a :: r, h)) else none
  | _ => none
theorem ok_dup_x1 (hd : decode cc pc = .ok (.dup_x1, 1)) : ev_Good l cl tyL G cc nL ret nm own Ts d wd pc (ev_fn (ev_dup_x1 (pc + 1))) := by
  refine ev_pure fun L stk h x hx => ?_
  unfold ev_dup_x1 at hx
  split at hx
  · split at hx
    · rename_i hg; cases hx; exact ⟨_, _, rfl, fun p e R s m args below meth c D cA lo O X H locs cells slots ls Q hw ho hl k => lv_dup_x1 X.1.1 X.1.2.1 hd hg.1 hg.2 k⟩
    · cases hx
  · cases hx
def ev_dup_x2 (nx : Nat) : ev_Fn := fun L stk h => match stk with
  | a :: b :: f :: r => if a.category = 1 ∧ b.category = 1 ∧ f.category = 1 then some (.inl (nx, L, a :: b :: f :: a :: r, h)) else none
  | _ => none
theorem ok_dup_x2 (hd : decode cc pc = .ok (.dup_x2, 1)) : ev_Good l cl tyL G cc nL ret nm own Ts d wd pc (ev_fn (ev_dup_x2 (pc + 1))) := by
  refine ev_pure fun L stk h x hx => ?_
  unfold ev_dup_x2 at hx
  split at hx
  · split at hx
    · rename_i hg; cases hx; exact ⟨_, _, rfl, fun p e R s m args below meth c D cA lo O X H locs cells slots ls Q hw ho hl k => lv_dup_x2 X.1.1 X.1.2.1 hd hg.1 hg.2.1 hg.2.2 k⟩
    · cases hx
  · cases hx
def ev_dup2 (nx : Nat) : ev_Fn := fun L stk h => match stk with
  | a :: b :: r => if a.category = 1 ∧ b.category = 1 then some (.inl (nx, L, a :: b :: a :: b :: r, h)) else none
  | _ => none
theorem ok_dup2 (hd : decode cc pc = .ok (.dup2, 1)) : ev_Good l cl tyL G cc nL ret nm own Ts d wd pc (ev_fn (ev_dup2 (pc + 1))) := by
  refine ev_pure fun L stk h x hx => ?_
  unfold ev_dup2 at hx
  split at hx
  · split at hx
    · rename_i hg; cases hx; exact ⟨_, _, rfl, fun p e R s m args below meth c D cA lo O X H locs cells slots ls Q hw ho hl k => lv_dup2_11 X.1.1 X.1.2.1 hd hg.1 hg.2 k⟩
    · cases hx
  · cases hx
def ev_dup2L (nx : Nat) : ev_Fn := fun L stk h => match stk with
  | .long a :: r => some (.inl (nx, L, .long a :: .long a :: r, h))
  | _ => none
theorem ok_dup2L (hd : decode cc pc = .ok (.dup2, 1)) : ev_Good l cl tyL G cc nL ret nm own Ts d wd pc (ev_fn (ev_dup2L (pc + 1))) := by
  refine ev_pure fun L stk h x hx => ?_
  unfold ev_dup2L at hx
  split at hx
  · cases hx; exact ⟨_, _, rfl, fun p e R s m args below meth c D cA lo O X H locs cells slots ls Q hw ho hl k => lv_dup2_2 X.1.1 X.1.2.1 hd rfl k⟩
  · cases hx
def ev_pop2L (nx : Nat) : ev_Fn := fun L stk h => match stk with
  | .long a :: r => some (.inl (nx, L, r, h))
  | _ => none
theorem ok_pop2L (hd : decode cc pc = .ok (.pop2, 1)) : ev_Good l cl tyL G cc nL ret nm own Ts d wd pc (ev_fn (ev_pop2L (pc + 1))) := by
  refine ev_pure fun L stk h x hx => ?_
  unfold ev_pop2L at hx
  split at hx
  · cases hx; exact ⟨_, _, rfl, fun p e R s m args below meth c D cA lo O X H locs cells slots ls Q hw ho hl k => lv_pop2_2 X.1.1 X.1.2.1 hd rfl k⟩
  · cases hx
def ev_iload (i nx : Nat) : ev_Fn := fun L stk h => match ev_at L i with
  | some (.int x) => some (.inl (nx, L, .int x :: stk, h))
  | _ => none
theorem ok_iload_n {z : Fin 4} {i : Nat} (hd : decode cc pc = .ok (.iload_n z, 1)) (hi : (z : Nat) = i) : ev_Good l cl tyL G cc nL ret nm own Ts d wd pc (ev_fn (ev_iload i (pc + 1))) := by
  refine ev_pure fun L stk h x hx => ?_
  unfold ev_iload at hx
  split at hx
  · rename_i hv; cases hx; exact ⟨_, _, rfl, fun p e R s m args below meth c D cA lo O X H locs cells slots ls Q hw ho hl k => lv_iload_n X.1.1 X.1.2.1 hd hi (hl.2.2 _ _ hv) k⟩
  · cases hx
theorem ok_iload {i : Nat} (hd : decode cc pc = .ok (.iload i, 2)) : ev_Good l cl tyL G cc nL ret nm own Ts d wd pc (ev_fn (ev_iload i (pc + 2))) := by
  refine ev_pure fun L stk h x hx => ?_
  unfold ev_iload at hx
  split at hx
  · rename_i hv; cases hx; exact ⟨_, _, rfl, fun p e R s m args below meth c D cA lo O X H locs cells slots ls Q hw ho hl k => lv_iload X.1.1 X.1.2.1 hd (hl.2.2 _ _ hv) k⟩
  · cases hx
def ev_lload (i nx : Nat) : ev_Fn := fun L stk h => match ev_at L i with
  | some (.long x) => some (.inl (nx, L, .long x :: stk, h))
  | _ => none
theorem ok_lload_n {z : Fin 4} {i : Nat} (hd : decode cc pc = .ok (.lload_n z, 1)) (hi : (z : Nat) = i) : ev_Good l cl tyL G cc nL ret nm own Ts d wd pc (ev_fn (ev_lload i (pc + 1))) := by
  refine ev_pure fun L stk h x hx => ?_
  unfold ev_lload at hx
  split at hx
  · rename_i hv; cases hx; exact ⟨_, _, rfl, fun p e R s m args below meth c D cA lo O X H locs cells slots ls Q hw ho hl k => lv_lload_n X.1.1 X.1.2.1 hd hi (hl.2.2 _ _ hv) k⟩
  · cases hx
theorem ok_lload {i : Nat} (hd : decode cc pc = .ok (.lload i, 2)) : ev_Good l cl tyL G cc nL ret nm own Ts d wd pc (ev_fn (ev_lload i (pc + 2))) := by
  refine ev_pure fun L stk h x hx => ?_
  unfold ev_lload at hx
  split at hx
  · rename_i hv; cases hx; exact ⟨_, _, rfl, fun p e R s m args below meth c D cA lo O X H locs cells slots ls Q hw ho hl k => lv_lload X.1.1 X.1.2.1 hd (hl.2.2 _ _ hv) k⟩
  · cases hx
def ev_aload (i nx : Nat) : ev_Fn := fun L stk h => match ev_at L i with
  | some (.ref x) => some (.inl (nx, L, .ref x :: stk, h))
  | some (.null) => some (.inl (nx, L, .null :: stk, h))
  | _ => none
theorem ok_aload_n {z : Fin 4} {i : Nat} (hd : decode cc pc = .ok (.aload_n z, 1)) (hi : (z : Nat) = i) : ev_Good l cl tyL G cc nL ret nm own Ts d wd pc (ev_fn (ev_aload i (pc + 1))) := by
  refine ev_pure fun L stk h x hx => ?_
  unfold ev_aload at hx
  split at hx
  · rename_i hv; cases hx; exact ⟨_, _, rfl, fun p e R s m args below meth c D cA lo O X H locs cells slots ls Q hw ho hl k => lv_aload_n X.1.1 X.1.2.1 hd hi (hl.2.2 _ _ hv) k⟩
  · rename_i hv; cases hx; exact ⟨_, _, rfl, fun p e R s m args below meth c D cA lo O X H locs cells slots ls Q hw ho hl k => lv_aload_nN X.1.1 X.1.2.1 hd hi (hl.2.2 _ _ hv) k⟩
  · cases hx
theorem ok_aload {i : Nat} (hd : decode cc pc = .ok (.aload i, 2)) : ev_Good l cl tyL G cc nL ret nm own Ts d wd pc (ev_fn (ev_aload i (pc + 2))) := by
  refine ev_pure fun L stk h x hx => ?_
  unfold ev_aload at hx
  split at hx
  · rename_i hv; cases hx; exact ⟨_, _, rfl, fun p e R s m args below meth c D cA lo O X H locs cells slots ls Q hw ho hl k => lv_aload X.1.1 X.1.2.1 hd (hl.2.2 _ _ hv) k⟩
  · rename_i hv; cases hx; exact ⟨_, _, rfl, fun p e R s m args below meth c D cA lo O X H locs cells slots ls Q hw ho hl k => lv_aloadN X.1.1 X.1.2.1 hd (hl.2.2 _ _ hv) k⟩
  · cases hx
def ev_ifeq (tg nx : Nat) : ev_Fn := fun L stk h => match stk with
  | .int x :: r => if x = 0 then some (.inl (tg, L, r, h)) else some (.inl (nx, L, r, h))
  | _ => none
theorem ok_ifeq {off : Int} {tgt : Nat} (hd : decode cc pc = .ok (.ifCond .eq off, 3)) (ht : (pc : Int) + off = (tgt : Int)) : ev_Good l cl tyL G cc nL ret nm own Ts d wd pc (ev_fn (ev_ifeq tgt (pc + 3))) := by
  refine ev_pure fun L stk h x hx => ?_
  unfold ev_ifeq at hx
  split at hx
  · split at hx
    · rename_i hg; cases hx; exact ⟨_, _, rfl, fun p e R s m args below meth c D cA lo O X H locs cells slots ls Q hw ho hl k => lv_if_eq X.1.1 X.1.2.1 hd ht (fun _ => k) (fun q => absurd hg q)⟩
    · rename_i hg; cases hx; exact ⟨_, _, rfl, fun p e R s m args below meth c D cA lo O X H locs cells slots ls Q hw ho hl k => lv_if_eq X.1.1 X.1.2.1 hd ht (fun q => absurd q hg) (fun _ => k)⟩
  · cases hx
def ev_ifne (tg nx : Nat) : ev_Fn := fun L stk h => match stk with
  | .int x :: r => if ¬ x = 0 then some (.inl (tg, L, r, h)) else some (.inl (nx, L, r, h))
  | _ => none
theorem ok_ifne {off : Int} {tgt : Nat} (hd : decode cc pc = .ok (.ifCond .ne off, 3)) (ht : (pc : Int) + off = (tgt : Int)) : ev_Good l cl tyL G cc nL ret nm own Ts d wd pc (ev_fn (ev_ifne tgt (pc + 3))) := by
  refine ev_pure fun L stk h x hx => ?_
  unfold ev_ifne at hx
  split at hx
  · split at hx
    · rename_i hg; cases hx; exact ⟨_, _, rfl, fun p e R s m args below meth c D cA lo O X H locs cells slots ls Q hw ho hl k => lv_if_ne X.1.1 X.1.2.1 hd ht (fun _ => k) (fun q => absurd q hg)⟩
    · rename_i hg; cases hx; exact ⟨_, _, rfl, fun p e R s m args below meth c D cA lo O X H locs cells slots ls Q hw ho hl k => lv_if_ne X.1.1 X.1.2.1 hd ht (fun q => absurd q hg) (fun _ => k)⟩
  · cases hx
def ev_iflt (tg nx : Nat) : ev_Fn := fun L stk h => match stk with
  | .int x :: r => if x < 0 then some (.inl (tg, L, r, h)) else some (.inl (nx, L, r, h))
  | _ => none
theorem ok_iflt {off : Int} {tgt : Nat} (hd : decode cc pc = .ok (.ifCond .lt off, 3)) (ht : (pc : Int) + off = (tgt : Int)) : ev_Good l cl tyL G cc nL ret nm own Ts d wd pc (ev_fn (ev_iflt tgt (pc + 3))) := by
  refine ev_pure fun L stk h x hx => ?_
  unfold ev_iflt at hx
  split at hx
  · split at hx
    · rename_i hg; cases hx; exact ⟨_, _, rfl, fun p e R s m args below meth c D cA lo O X H locs cells slots ls Q hw ho hl k => lv_if_lt X.1.1 X.1.2.1 hd ht (fun _ => k) (fun q => absurd hg q)⟩
    · rename_i hg; cases hx; exact ⟨_, _, rfl, fun p e R s m args below meth c D cA lo O X H locs cells slots ls Q hw ho hl k => lv_if_lt X.1.1 X.1.2.1 hd ht (fun q => absurd q hg) (fun _ => k)⟩
  · cases hx
def ev_ifge (tg nx : Nat) : ev_Fn := fun L stk h => match stk with
  | .int x :: r => if 0 ≤ x then some (.inl (tg, L, r, h)) else some (.inl (nx, L, r, h))
  | _ => none
theorem ok_ifge {off : Int} {tgt : Nat} (hd : decode cc pc = .ok (.ifCond .ge off, 3)) (ht : (pc : Int) + off = (tgt : Int)) : ev_Good l cl tyL G cc nL ret nm own Ts d wd pc (ev_fn (ev_ifge tgt (pc + 3))) := by
  refine ev_pure fun L stk h x hx => ?_
  unfold ev_ifge at hx
  split at hx
  · split at hx
    · rename_i hg; cases hx; exact ⟨_, _, rfl, fun p e R s m args below meth c D cA lo O X H locs cells slots ls Q hw ho hl k => lv_if_ge X.1.1 X.1.2.1 hd ht (fun _ => k) (fun q => absurd hg q)⟩
    · rename_i hg; cases hx; exact ⟨_, _, rfl, fun p e R s m args below meth c D cA lo O X H locs cells slots ls Q hw ho hl k => lv_if_ge X.1.1 X.1.2.1 hd ht (fun q => absurd q hg) (fun _ => k)⟩
  · cases hx
def ev_ifgt (tg nx : Nat) : ev_Fn := fun L stk h => match stk with
  | .int x :: r => if 0 < x then some (.inl (tg, L, r, h)) else some (.inl (nx, L, r, h))
  | _ => none
theorem ok_ifgt {off : Int} {tgt : Nat} (hd : decode cc pc = .ok (.ifCond .gt off, 3)) (ht : (pc : Int) + off = (tgt : Int)) : ev_Good l cl tyL G cc nL ret nm own Ts d wd pc (ev_fn (ev_ifgt tgt (pc + 3))) := by
  refine ev_pure fun L stk h x hx => ?_
  unfold ev_ifgt at hx
  split at hx
  · split at hx
    · rename_i hg; cases hx; exact ⟨_, _, rfl, fun p e R s m args below meth c D cA lo O X H locs cells slots ls Q hw ho hl k => lv_if_gt X.1.1 X.1.2.1 hd ht (fun _ => k) (fun q => absurd hg q)⟩
    · rename_i hg; cases hx; exact ⟨_, _, rfl, fun p e R s m args below meth c D cA lo O X H locs cells slots ls Q hw ho hl k => lv_if_gt X.1.1 X.1.2.1 hd ht (fun q => absurd q hg) (fun _ => k)⟩
  · cases hx
def ev_ifle (tg nx : Nat) : ev_Fn := fun L stk h => match stk with
  | .int x :: r => if x ≤ 0 then some (.inl (tg, L, r, h)) else some (.inl (nx, L, r, h))
  | _ => none
theorem ok_ifle {off : Int} {tgt : Nat} (hd : decode cc pc = .ok (.ifCond .le off, 3)) (ht : (pc : Int) + off = (tgt : Int)) : ev_Good l cl tyL G cc nL ret nm own Ts d wd pc (ev_fn (ev_ifle tgt (pc + 3))) := by
  refine ev_pure fun L stk h x hx => ?_
  unfold ev_ifle at hx
  split at hx
  · split at hx
    · rename_i hg; cases hx; exact ⟨_, _, rfl, fun p e R s m args below meth c D cA lo O X H locs cells slots ls Q hw ho hl k => lv_if_le X.1.1 X.1.2.1 hd ht (fun _ => k) (fun q => absurd hg q)⟩
    · rename_i hg; cases hx; exact ⟨_, _, rfl, fun p e R s m args below meth c D cA lo O X H locs cells slots ls Q hw ho hl k => lv_if_le X.1.1 X.1.2.1 hd ht (fun q => absurd q hg) (fun _ => k)⟩
  · cases hx
def ev_icmpeq (tg nx : Nat) : ev_Fn := fun L stk h => match stk with
  | .int y :: .int x :: r => if x = y then some (.inl (tg, L, r, h)) else some (.inl (nx, L, r, h))
  | _ => none
theorem ok_icmpeq {off : Int} {tgt : Nat} (hd : decode cc pc = .ok (.if_icmp .eq off, 3)) (ht : (pc : Int) + off = (tgt : Int)) : ev_Good l cl tyL G cc nL ret nm own Ts d wd pc (ev_fn (ev_icmpeq tgt (pc + 3))) := by
  refine ev_pure fun L stk h x hx => ?_
  unfold ev_icmpeq at hx
  split at hx
  · split at hx
    · rename_i hg; cases hx; exact ⟨_, _, rfl, fun p e R s m args below meth c D cA lo O X H locs cells slots ls Q hw ho hl k => lv_icmp_eq X.1.1 X.1.2.1 hd ht (fun _ => k) (fun q => absurd hg q)⟩
    · rename_i hg; cases hx; exact ⟨_, _, rfl, fun p e R s m args below meth c D cA lo O X H locs cells slots ls Q hw ho hl k => lv_icmp_eq X.1.1 X.1.2.1 hd ht (fun q => absurd q hg) (fun _ => k)⟩
  · cases hx
def ev_icmpne (tg nx : Nat) : ev_Fn := fun L stk h => match stk with
  | .int y :: .int x :: r => if ¬ x = y then some (.inl (tg, L, r, h)) else some (.inl (nx, L, r, h))
  | _ => none
theorem ok_icmpne {off : Int} {tgt : Nat} (hd : decode cc pc = .ok (.if_icmp .ne off, 3)) (ht : (pc : Int) + off = (tgt : Int)) : ev_Good l cl tyL G cc nL ret nm own Ts d wd pc (ev_fn (ev_icmpne tgt (pc + 3))) := by
  refine ev_pure fun L stk h x hx => ?_
  unfold ev_icmpne at hx
  split at hx
  · split at hx
    · rename_i hg; cases hx; exact ⟨_, _, rfl, fun p e R s m args below meth c D cA lo O X H locs cells slots ls Q hw ho hl k => lv_icmp_ne X.1.1 X.1.2.1 hd ht (fun _ => k) (fun q => absurd q hg)⟩
    · rename_i hg; cases hx; exact ⟨_, _, rfl, fun p e R s m args below meth c D cA lo O X H locs cells slots ls Q hw ho hl k => lv_icmp_ne X.1.1 X.1.2.1 hd ht (fun q => absurd q hg) (fun _ => k)⟩
  · cases hx
def ev_icmplt (tg nx : Nat) : ev_Fn := fun L stk h => match stk with
  | .int y :: .int x :: r => if x < y then some (.inl (tg, L, r, h)) else some (.inl (nx, L, r, h))
  | _ => none
theorem ok_icmplt {off : Int} {tgt : Nat} (hd : decode cc pc = .ok (.if_icmp .lt off, 3)) (ht : (pc : Int) + off = (tgt : Int)) : ev_Good l cl tyL G cc nL ret nm own Ts d wd pc (ev_fn (ev_icmplt tgt (pc + 3))) := by
  refine ev_pure fun L stk h x hx => ?_
  unfold ev_icmplt at hx
  split at hx
  · split at hx
    · rename_i hg; cases hx; exact ⟨_, _, rfl, fun p e R s m args below meth c D cA lo O X H locs cells slots ls Q hw ho hl k => lv_icmp_lt X.1.1 X.1.2.1 hd ht (fun _ => k) (fun q => absurd hg q)⟩
    · rename_i hg; cases hx; exact ⟨_, _, rfl, fun p e R s m args below meth c D cA lo O X H locs cells slots ls Q hw ho hl k => lv_icmp_lt X.1.1 X.1.2.1 hd ht (fun q => absurd q hg) (fun _ => k)⟩
  · cases hx
def ev_icmpge (tg nx : Nat) : ev_Fn := fun L stk h => match stk with
  | .int y :: .int x :: r => if y ≤ x then some (.inl (tg, L, r, h)) else some (.inl (nx, L, r, h))
  | _ => none
theorem ok_icmpge {off : Int} {tgt : Nat} (hd : decode cc pc = .ok (.if_icmp .ge off, 3)) (ht : (pc : Int) + off = (tgt : Int)) : ev_Good l cl tyL G cc nL ret nm own Ts d wd pc (ev_fn (ev_icmpge tgt (pc + 3))) := by
  refine ev_pure fun L stk h x hx => ?_
  unfold ev_icmpge at hx
  split at hx
  · split at hx
    · rename_i hg; cases hx; exact ⟨_, _, rfl, fun p e R s m args below meth c D cA lo O X H locs cells slots ls Q hw ho hl k => lv_icmp_ge X.1.1 X.1.2.1 hd ht (fun _ => k) (fun q => absurd hg q)⟩
    · rename_i hg; cases hx; exact ⟨_, _, rfl, fun p e R s m args below meth c D cA lo O X H locs cells slots ls Q hw ho hl k => lv_icmp_ge X.1.1 X.1.2.1 hd ht (fun q => absurd q hg) (fun _ => k)⟩
  · cases hx
def ev_icmpgt (tg nx : Nat) : ev_Fn := fun L stk h => match stk with
  | .int y :: .int x :: r => if y < x then some (.inl (tg, L, r, h)) else some (.inl (nx, L, r, h))
  | _ => none
theorem ok_icmpgt {off : Int} {tgt : Nat} (hd : decode cc pc = .ok (.if_icmp .gt off, 3)) (ht : (pc : Int) + off = (tgt : Int)) : ev_Good l cl tyL G cc nL ret nm own Ts d wd pc (ev_fn (ev_icmpgt tgt (pc + 3))) := by
  refine ev_pure fun L stk h x hx => ?_
  unfold ev_icmpgt at hx
  split at hx
  · split at hx
    · rename_i hg; cases hx; exact ⟨_, _, rfl, fun p e R s m args below meth c D cA lo O X H locs cells slots ls Q hw ho hl k => lv_icmp_gt X.1.1 X.1.2.1 hd ht (fun _ => k) (fun q => absurd hg q)⟩
    · rename_i hg; cases hx; exact ⟨_, _, rfl, fun p e R s m args below meth c D cA lo O X H locs cells slots ls Q hw ho hl k => lv_icmp_gt X.1.1 X.1.2.1 hd ht (fun q => absurd q hg) (fun _ => k)⟩
  · cases hx
def ev_icmple (tg nx : Nat) : ev_Fn := fun L stk h => match stk with
  | .int y :: .int x :: r => if x ≤ y then some (.inl (tg, L, r, h)) else some (.inl (nx, L, r, h))
  | _ => none
theorem ok_icmple {off : Int} {tgt : Nat} (hd : decode cc pc = .ok (.if_icmp .le off, 3)) (ht : (pc : Int) + off = (tgt : Int)) : ev_Good l cl tyL G cc nL ret nm own Ts d wd pc (ev_fn (ev_icmple tgt (pc + 3))) := by
  refine ev_pure fun L stk h x hx => ?_
  unfold ev_icmple at hx
  split at hx
  · split at hx
    · rename_i hg; cases hx; exact ⟨_, _, rfl, fun p e R s m args below meth c D cA lo O X H locs cells slots ls Q hw ho hl k => lv_icmp_le X.1.1 X.1.2.1 hd ht (fun _ => k) (fun q => absurd hg q)⟩
    · rename_i hg; cases hx; exact ⟨_, _, rfl, fun p e R s m args below meth c D cA lo O X H locs cells slots ls Q hw ho hl k => lv_icmp_le X.1.1 X.1.2.1 hd ht (fun q => absurd q hg) (fun _ => k)⟩
  · cases hx
def ev_ifnull (tg nx : Nat) : ev_Fn := fun L stk h => match stk with
  | .null :: r => some (.inl (tg, L, r, h))
  | .ref _ :: r => some (.inl (nx, L, r, h))
  | _ => none
theorem ok_ifnull {off : Int} {tgt : Nat} (hd : decode cc pc = .ok (.ifnull off, 3)) (ht : (pc : Int) + off = (tgt : Int)) : ev_Good l cl tyL G cc nL ret nm own Ts d wd pc (ev_fn (ev_ifnull tgt (pc + 3))) := by
  refine ev_pure fun L stk h x hx => ?_
  unfold ev_ifnull at hx
  split at hx
  · cases hx; exact ⟨_, _, rfl, fun p e R s m args below meth c D cA lo O X H locs cells slots ls Q hw ho hl k => lv_ifnullN X.1.1 X.1.2.1 hd ht k⟩
  · cases hx; exact ⟨_, _, rfl, fun p e R s m args below meth c D cA lo O X H locs cells slots ls Q hw ho hl k => lv_ifnull X.1.1 X.1.2.1 hd k⟩
  · cases hx
def ev_ifnonnull (tg nx : Nat) : ev_Fn := fun L stk h => match stk with
  | .null :: r => some (.inl (nx, L, r, h))
  | .ref _ :: r => some (.inl (tg, L, r, h))
  | _ => none
theorem ok_ifnonnull {off : Int} {tgt : Nat} (hd : decode cc pc = .ok (.ifnonnull off, 3)) (ht : (pc : Int) + off = (tgt : Int)) : ev_Good l cl tyL G cc nL ret nm own Ts d wd pc (ev_fn (ev_ifnonnull tgt (pc + 3))) := by
  refine ev_pure fun L stk h x hx => ?_
  unfold ev_ifnonnull at hx
  split at hx
  · cases hx; exact ⟨_, _, rfl, fun p e R s m args below meth c D cA lo O X H locs cells slots ls Q hw ho hl k => lv_ifnonnullN X.1.1 X.1.2.1 hd k⟩
  · cases hx; exact ⟨_, _, rfl, fun p e R s m args below meth c D cA lo O X H locs cells slots ls Q hw ho hl k => lv_ifnonnull X.1.1 X.1.2.1 hd ht k⟩
  · cases hx
end OPS
end
section
/-! Steps that store locals, read and write the heap, make cells, call, and end. -/
theorem ev_P1 {D : va_G} {cl : List vw_C} {q : Nat × va_E} {H : Heap} (h : va_at D cl q H) : va_P D cl [q] H := by
  intro k x hk
  cases k with
  | zero => cases hk; exact h
  | succ k => simp at hk
section HOPS
variable {l : Launch} {cl : List vw_C} {tyL : List FieldType} {G : Nat → (State → Prop) → Prop} {cc : ByteArray} {nL : Nat} {ret : Option FieldType} {nm own : String} {Ts : List Cond} {d wd pc : Nat}
theorem ev_loc {f : ev_Fn} (hp : ∀ (L : ev_L) (stk : List Value) (h : ev_H) (x : ev_S ⊕ ev_O), f L stk h = some x → ∃ (nx : Nat) (L' : ev_L) (stk' : List Value), x = .inl (nx, L', stk', h) ∧
      ∀ (p : Program) (e : Env) (R : Room) (s : State) (m : MethodId) (args : Array Value) (below : List Frame) (meth : Method) (c : Code) (D : va_G) (cA : Nat → ClassId) (lo : Nat) (O : State → Prop), ev_ctx p l e R s m args below meth c cc nL ret nm own Ts D cl cA tyL lo O G d wd →
        ∀ (H : Heap) (locs : List Loc) (cells slots : Nat) (ls : Array Slot) (Q : State → Prop), ev_lv ls nL L → (∀ ls' : Array Slot, ev_lv ls' nL L' → W p l e R s m args below meth c H locs cells slots Q (F0 m nx ls' stk')) → W p l e R s m args below meth c H locs cells slots Q (F0 m pc ls stk)) :
    ev_Good l cl tyL G cc nL ret nm own Ts d wd pc (ev_fn f) := by
  refine ⟨fun L stk h => ⟨fun st' e1 => ?_, fun o e1 => ?_⟩, fun p e R s m args below meth c D cA lo O b0 oE X => ⟨fun L stk h g1 g2 Q st' e1 r1 r2 k => ?_, fun L stk h g1 g2 e1 => ?_⟩⟩
  · obtain ⟨nx, L', stk', hx, -⟩ := hp L stk h _ e1
    cases hx
    exact ⟨Nat.le_refl _, Nat.le_refl _⟩
  · obtain ⟨nx, L', stk', hx, -⟩ := hp L stk h _ e1
    cases hx
  · obtain ⟨nx, L', stk', hx, hw⟩ := hp L stk h _ e1
    cases hx
    intro H locs ls a1 a2 a3 a4 a5 a6
    exact hw p e R s m args below meth c D cA lo O X H locs _ _ ls _ a6 (fun ls' h' => k H locs ls' a1 a2 a3 a4 a5 h')
  · obtain ⟨nx, L', stk', hx, -⟩ := hp L stk h _ e1
    cases hx
def ev_istore (i nx : Nat) : ev_Fn := fun L stk h => match stk with
  | .int x :: r => some (.inl (nx, ev_sto1 L i (.int x), r, h))
  | _ => none
theorem ok_istore_n {z : Fin 4} {i : Nat} (hn : i < nL) (hd : decode cc pc = .ok (.istore_n z, 1)) (hi : (z : Nat) = i) : ev_Good l cl tyL G cc nL ret nm own Ts d wd pc (ev_fn (ev_istore i (pc + 1))) := by
  refine ev_loc fun L stk h x hx => ?_
  unfold ev_istore at hx
  split at hx
  · cases hx; exact ⟨_, _, _, rfl, fun p e R s m args below meth c D cA lo O X H locs cells slots ls Q hl k => lv_istore_n X.1.1 X.1.2.1 hd hi hl.has hn rfl (fun ls' h' => k ls' (ev_lv.sto1 h'))⟩
  · cases hx
theorem ok_istore {i : Nat} (hn : i < nL) (hd : decode cc pc = .ok (.istore i, 2)) : ev_Good l cl tyL G cc nL ret nm own Ts d wd pc (ev_fn (ev_istore i (pc + 2))) := by
  refine ev_loc fun L stk h x hx => ?_
  unfold ev_istore at hx
  split at hx
  · cases hx; exact ⟨_, _, _, rfl, fun p e R s m args below meth c D cA lo O X H locs cells slots ls Q hl k => lv_istore X.1.1 X.1.2.1 hd hl.has hn rfl (fun ls' h' => k ls' (ev_lv.sto1 h'))⟩
  · cases hx
def ev_lstore (i nx : Nat) : ev_Fn := fun L stk h => match stk with
  | .long x :: r => some (.inl (nx, ev_sto2 L i (.long x), r, h))
  | _ => none
theorem ok_lstore_n {z : Fin 4} {i : Nat} (hn : i + 1 < nL) (hd : decode cc pc = .ok (.lstore_n z, 1)) (hi : (z : Nat) = i) : ev_Good l cl tyL G cc nL ret nm own Ts d wd pc (ev_fn (ev_lstore i (pc + 1))) := by
  refine ev_loc fun L stk h x hx => ?_
  unfold ev_lstore at hx
  split at hx
  · cases hx; exact ⟨_, _, _, rfl, fun p e R s m args below meth c D cA lo O X H locs cells slots ls Q hl k => lv_lstore_n X.1.1 X.1.2.1 hd hi hl.has hn rfl (fun ls' h' => k ls' (ev_lv.sto2 h'))⟩
  · cases hx
theorem ok_lstore {i : Nat} (hn : i + 1 < nL) (hd : decode cc pc = .ok (.lstore i, 2)) : ev_Good l cl tyL G cc nL ret nm own Ts d wd pc (ev_fn (ev_lstore i (pc + 2))) := by
  refine ev_loc fun L stk h x hx => ?_
  unfold ev_lstore at hx
  split at hx
  · cases hx; exact ⟨_, _, _, rfl, fun p e R s m args below meth c D cA lo O X H locs cells slots ls Q hl k => lv_lstore X.1.1 X.1.2.1 hd hl.has hn rfl (fun ls' h' => k ls' (ev_lv.sto2 h'))⟩
  · cases hx
def ev_astore (i nx : Nat) : ev_Fn := fun L stk h => match stk with
  | .ref x :: r => some (.inl (nx, ev_sto1 L i (.ref x), r, h))
  | .null :: r => some (.inl (nx, ev_sto1 L i .null, r, h))
  | _ => none
theorem ok_astore_n {z : Fin 4} {i : Nat} (hn : i < nL) (hd : decode cc pc = .ok (.astore_n z, 1)) (hi : (z : Nat) = i) : ev_Good l cl tyL G cc nL ret nm own Ts d wd pc (ev_fn (ev_astore i (pc + 1))) := by
  refine ev_loc fun L stk h x hx => ?_
  unfold ev_astore at hx
  split at hx
  · cases hx; exact ⟨_, _, _, rfl, fun p e R s m args below meth c D cA lo O X H locs cells slots ls Q hl k => lv_astore_n X.1.1 X.1.2.1 hd hi hl.has hn rfl (fun ls' h' => k ls' (ev_lv.sto1 h'))⟩
  · cases hx; exact ⟨_, _, _, rfl, fun p e R s m args below meth c D cA lo O X H locs cells slots ls Q hl k => lv_astore_nN X.1.1 X.1.2.1 hd hi hl.has hn rfl (fun ls' h' => k ls' (ev_lv.sto1 h'))⟩
  · cases hx
theorem ok_astore {i : Nat} (hn : i < nL) (hd : decode cc pc = .ok (.astore i, 2)) : ev_Good l cl tyL G cc nL ret nm own Ts d wd pc (ev_fn (ev_astore i (pc + 2))) := by
  refine ev_loc fun L stk h x hx => ?_
  unfold ev_astore at hx
  split at hx
  · cases hx; exact ⟨_, _, _, rfl, fun p e R s m args below meth c D cA lo O X H locs cells slots ls Q hl k => lv_astore X.1.1 X.1.2.1 hd hl.has hn rfl (fun ls' h' => k ls' (ev_lv.sto1 h'))⟩
  · cases hx; exact ⟨_, _, _, rfl, fun p e R s m args below meth c D cA lo O X H locs cells slots ls Q hl k => lv_astoreN X.1.1 X.1.2.1 hd hl.has hn rfl (fun ls' h' => k ls' (ev_lv.sto1 h'))⟩
  · cases hx
def ev_iinc (i : Nat) (v : Int32) (nx : Nat) : ev_Fn := fun L stk h => match ev_at L i with
  | some (.int x) => some (.inl (nx, ev_sto1 L i (.int (x + v)), stk, h))
  | _ => none
theorem ok_iinc {i : Nat} {z : Int} {v : Int32} (hn : i < nL) (hd : decode cc pc = .ok (.iinc i z, 3)) (hz : Int32.ofInt z = v) : ev_Good l cl tyL G cc nL ret nm own Ts d wd pc (ev_fn (ev_iinc i v (pc + 3))) := by
  refine ev_loc fun L stk h x hx => ?_
  unfold ev_iinc at hx
  split at hx
  · rename_i x0 hv
    cases hx
    obtain ⟨k0, hk0⟩ := List.getElem?_of_mem ((ev_mem_lst L 0 (i, .int x0)).mpr ⟨i, by simp, hv⟩)
    exact ⟨_, _, _, rfl, fun p e R s m args below meth c D cA lo O X H locs cells slots ls Q hl k => lv_iinc X.1.1 X.1.2.1 hd hl.has hk0 (by rw [hz]) hn rfl (fun ls' h' => k ls' (ev_lv.sto1 h'))⟩
  · cases hx
-- ends
theorem ev_end {f : ev_Fn} (hp : ∀ (L : ev_L) (stk : List Value) (h : ev_H) (x : ev_S ⊕ ev_O), f L stk h = some x → ∃ v : Option Value, x = .inr (v, h) ∧
      ∀ (p : Program) (e : Env) (R : Room) (s : State) (m : MethodId) (args : Array Value) (below : List Frame) (meth : Method) (c : Code) (H : Heap) (locs : List Loc) (cells slots : Nat) (ls : Array Slot) (Qc : Array Value → State → Outcome → State → Prop) (free : Addr → Prop), ev_X p s m args meth c cc nL ret nm own Ts →
        (∀ t : State, t.heap = H → s.WarmedH t.vm → Qc args s (.returned v) t) → (∀ q ∈ locs, free q.base) → W p l e R s m args below meth c H locs cells slots (MQ below Qc args s cells slots free) (F0 m pc ls stk)) :
    ev_Good l cl tyL G cc nL ret nm own Ts d wd pc (ev_fn f) := by
  refine ⟨fun L stk h => ⟨fun st' e1 => ?_, fun o e1 => ?_⟩, fun p e R s m args below meth c D cA lo O b0 oE X => ⟨fun L stk h g1 g2 Q st' e1 r1 r2 k => ?_, fun L stk h g1 g2 e1 => ?_⟩⟩
  · obtain ⟨v, hx, -⟩ := hp L stk h _ e1
    cases hx
  · obtain ⟨v, hx, -⟩ := hp L stk h _ e1
    cases hx
    exact ⟨Nat.le_refl _, Nat.le_refl _⟩
  · obtain ⟨v, hx, -⟩ := hp L stk h _ e1
    cases hx
  · obtain ⟨v, hx, hw⟩ := hp L stk h _ e1
    cases hx
    intro H locs ls a1 a2 a3 a4 a5 a6
    refine hw p e R s m args below meth c H locs _ _ ls (ev_Qc D cl cA tyL lo O v h) _ X.1 (fun t ht hW => ?_) a2
    refine ⟨rfl, ⟨by rw [ht]; exact a1, va_K.moved hW.alike X.2.1, X.2.2.2.1 s t (Or.inl hW) (by rw [ht]; exact a4) (fun q hq => by rw [ht]; exact a3 q hq) X.2.2.1, by rw [ht]; exact Nat.le_trans a5 a4⟩, by rw [ht]; exact a4, fun q hq => by rw [ht]; exact a3 q hq⟩
def ev_iret : ev_Fn := fun _ stk h => match stk with
  | [.int x] => some (.inr (some (.int x), h))
  | _ => none
theorem ok_iret (hr : ret = some .int) (hd : decode cc pc = .ok (.ireturn, 1)) : ev_Good l cl tyL G cc nL ret nm own Ts d wd pc (ev_fn ev_iret) := by
  refine ev_end fun L stk h x hx => ?_
  unfold ev_iret at hx
  split at hx
  · cases hx; exact ⟨_, rfl, fun p e R s m args below meth c H locs cells slots ls Qc free X hq hf => W.iret X.1 X.2.1 (X.2.2.2.2.2.1.trans hr) hq hf hd X.2.2.2.2.2.2.1⟩
  · cases hx
def ev_zret (ty : FieldType) : ev_Fn := fun _ stk h => match stk with
  | [.int x] => if narrow ty (.int x) = .int x then some (.inr (some (.int x), h)) else none
  | _ => none
theorem ok_zret {ty : FieldType} (hr : ret = some ty) (hd : decode cc pc = .ok (.ireturn, 1)) : ev_Good l cl tyL G cc nL ret nm own Ts d wd pc (ev_fn (ev_zret ty)) := by
  refine ev_end fun L stk h x hx => ?_
  unfold ev_zret at hx
  split at hx
  · split at hx
    · rename_i hg; cases hx; exact ⟨_, rfl, fun p e R s m args below meth c H locs cells slots ls Qc free X hq hf => W.zret X.1 X.2.1 (X.2.2.2.2.2.1.trans hr) hg hq hf hd X.2.2.2.2.2.2.1⟩
    · cases hx
  · cases hx
def ev_lret : ev_Fn := fun _ stk h => match stk with
  | [.long x] => some (.inr (some (.long x), h))
  | _ => none
theorem ok_lret (hr : ret = some .long) (hd : decode cc pc = .ok (.lreturn, 1)) : ev_Good l cl tyL G cc nL ret nm own Ts d wd pc (ev_fn ev_lret) := by
  refine ev_end fun L stk h x hx => ?_
  unfold ev_lret at hx
  split at hx
  · cases hx; exact ⟨_, rfl, fun p e R s m args below meth c H locs cells slots ls Qc free X hq hf => W.lret X.1 X.2.1 (X.2.2.2.2.2.1.trans hr) hq hf hd X.2.2.2.2.2.2.1⟩
  · cases hx
def ev_vret : ev_Fn := fun _ stk h => match stk with
  | [] => some (.inr (none, h))
  | _ => none
theorem ok_vret (hr : ret = none) (hd : decode cc pc = .ok (.return_, 1)) : ev_Good l cl tyL G cc nL ret nm own Ts d wd pc (ev_fn ev_vret) := by
  refine ev_end fun L stk h x hx => ?_
  unfold ev_vret at hx
  split at hx
  · cases hx; exact ⟨_, rfl, fun p e R s m args below meth c H locs cells slots ls Qc free X hq hf => W.vret X.1 X.2.1 (X.2.2.2.2.2.1.trans hr) hq hf hd X.2.2.2.2.2.2.1⟩
  · cases hx
def ev_aret : ev_Fn := fun _ stk h => match stk with
  | [.ref x] => some (.inr (some (.ref x), h))
  | [.null] => some (.inr (some .null, h))
  | _ => none
theorem ok_aret {rt : FieldType} (hr : ret = some rt) (hrt : (∃ n, rt = .object n) ∨ ∃ t, rt = .array t) (hd : decode cc pc = .ok (.areturn, 1)) : ev_Good l cl tyL G cc nL ret nm own Ts d wd pc (ev_fn ev_aret) := by
  refine ev_end fun L stk h x hx => ?_
  unfold ev_aret at hx
  split at hx
  · cases hx; exact ⟨_, rfl, fun p e R s m args below meth c H locs cells slots ls Qc free X hq hf => W.aret X.1 X.2.1 (X.2.2.2.2.2.1.trans hr) hrt (Or.inr ⟨_, rfl⟩) hq hf hd X.2.2.2.2.2.2.1⟩
  · cases hx; exact ⟨_, rfl, fun p e R s m args below meth c H locs cells slots ls Qc free X hq hf => W.aret X.1 X.2.1 (X.2.2.2.2.2.1.trans hr) hrt (Or.inl rfl) hq hf hd X.2.2.2.2.2.2.1⟩
  · cases hx
-- a field is read
def ev_fld (f : Nat → Option ev_E) (a ci k : Nat) : Option Value := match f a with
  | some (.inr (c, fs)) => if c = ci then fs[k]? else none
  | _ => none
def ev_getf (ci k nx : Nat) : ev_Fn := fun L stk h => match stk with
  | .ref a :: r => match ev_fld h.2.2 a ci k with
    | some v => some (.inl (nx, L, v :: r, h))
    | none => none
  | _ => none
theorem ev_fld_some {f : Nat → Option ev_E} {a ci k : Nat} {v : Value} (h : ev_fld f a ci k = some v) : ∃ fs : List Value, f a = some (.inr (ci, fs)) ∧ fs[k]? = some v := by
  unfold ev_fld at h
  split at h
  · rename_i c fs hf
    split at h
    · rename_i e
      subst e
      exact ⟨fs, hf, h⟩
    · cases h
  · cases h
theorem ok_getf {C ref : String} {T : u_T} {N ci k ix : Nat} (hc : cl[ci]? = some (C, T, N)) (hk : k < N) (hin : ∀ w ∈ u_ws C T N, w ∈ Ts) (hlink : Cond.fieldLink own ix ref (T k).2.1 (T k).2.2.1 ∈ Ts)
    (hsame : (T k).1 = ref ∨ Cond.sameField ref (T k).1 (T k).2.1 (T k).2.2.1 ∈ Ts) (hd : decode cc pc = .ok (.getfield ix, 3)) : ev_Good l cl tyL G cc nL ret nm own Ts d wd pc (ev_fn (ev_getf ci k (pc + 3))) := by
  refine ev_pure fun L stk h x hx => ?_
  unfold ev_getf at hx
  split at hx
  · rename_i a r
    split at hx
    · rename_i v hv
      cases hx
      obtain ⟨fs, hf, hv⟩ := ev_fld_some hv
      exact ⟨_, _, rfl, fun p e R s m args below meth c D cA lo O X H locs cells slots ls Q hw ho hl kk => va_get X.1.1 X.1.2.1 X.1.2.2.2.2.1 hin X.1.2.2.2.1 X.2.1 (ev_P1 (hw.2 a _ hf).2) 0 rfl hc k hk (X.1.2.2.2.2.1 _ hlink) (fun x9 h9 => by
        rcases hsame with q | q
        · rw [← q]; exact h9
        · exact u_same (X.1.2.2.2.2.1 _ q) x9 h9) hv hd kk⟩
    · cases hx
  · cases hx
end HOPS
end
section
/-! Steps that write the heap and make cells. -/
section WOPS
variable {l : Launch} {cl : List vw_C} {tyL : List FieldType} {G : Nat → (State → Prop) → Prop} {cc : ByteArray} {nL : Nat} {ret : Option FieldType} {nm own : String} {Ts : List Cond} {d wd pc : Nat}
theorem ev_wr {f : ev_Fn} (hp : ∀ (L : ev_L) (stk : List Value) (h : ev_H) (x : ev_S ⊕ ev_O), f L stk h = some x → ∃ (nx : Nat) (stk' : List Value) (a : Nat) (x0 x' : ev_E), x = .inl (nx, L, stk', ev_put h a x') ∧ h.2.2 a = some x0 ∧
      ∀ (p : Program) (e : Env) (R : Room) (s : State) (m : MethodId) (args : Array Value) (below : List Frame) (meth : Method) (c : Code) (D : va_G) (cA : Nat → ClassId) (lo : Nat) (O : State → Prop), ev_ctx p l e R s m args below meth c cc nL ret nm own Ts D cl cA tyL lo O G d wd →
        ∀ (H : Heap) (locs : List Loc) (cells slots : Nat) (ls : Array Slot) (Q : State → Prop), ev_wd D cl cA lo h H → (∀ (H1 : Heap) (i : Nat), H1.size = H.size → (∀ q : Nat, q ≠ a → H1[q]? = H[q]?) → va_at D cl (a, ev_cv cA x') H1 → W p l e R s m args below meth c H1 (locs ++ [⟨a, i⟩]) cells slots Q (F0 m nx ls stk')) → W p l e R s m args below meth c H locs cells slots Q (F0 m pc ls stk)) :
    ev_Good l cl tyL G cc nL ret nm own Ts d wd pc (ev_fn f) := by
  refine ⟨fun L stk h => ⟨fun st' e1 => ?_, fun o e1 => ?_⟩, fun p e R s m args below meth c D cA lo O b0 oE X => ⟨fun L stk h g1 g2 Q st' e1 r1 r2 k => ?_, fun L stk h g1 g2 e1 => ?_⟩⟩
  · obtain ⟨nx, stk', a, x0, x', hx, -⟩ := hp L stk h _ e1
    cases hx
    exact ⟨Nat.le_refl _, Nat.le_refl _⟩
  · obtain ⟨nx, stk', a, x0, x', hx, -⟩ := hp L stk h _ e1
    cases hx
  · obtain ⟨nx, stk', a, x0, x', hx, hf, hw⟩ := hp L stk h _ e1
    cases hx
    intro H locs ls a1 a2 a3 a4 a5 a6
    have hlo := (a1.2 a x0 hf).1
    refine hw p e R s m args below meth c D cA lo O X H locs _ _ ls _ a1 (fun H1 i z oq hat => k H1 (locs ++ [⟨a, i⟩]) ls (a1.put hlo z oq hat) (fun q hq => ?_) (fun q hq => ?_) (by rw [z]; exact a4) a5 a6)
    · rcases List.mem_append.mp hq with g | g
      · exact a2 q g
      · rw [List.mem_singleton.mp g]; exact hlo
    · rw [oq q (by omega)]; exact a3 q hq
  · obtain ⟨nx, stk', a, x0, x', hx, -⟩ := hp L stk h _ e1
    cases hx
theorem ev_mk {f : ev_Fn} (hp : ∀ (L : ev_L) (stk : List Value) (h : ev_H) (x : ev_S ⊕ ev_O), f L stk h = some x → ∃ (nx : Nat) (stk' : List Value) (kk : Nat) (x' : ev_E), x = .inl (nx, L, stk', ev_new h kk x') ∧
      ∀ (p : Program) (e : Env) (R : Room) (s : State) (m : MethodId) (args : Array Value) (below : List Frame) (meth : Method) (c : Code) (D : va_G) (cA : Nat → ClassId) (lo : Nat) (O : State → Prop), ev_ctx p l e R s m args below meth c cc nL ret nm own Ts D cl cA tyL lo O G d wd →
        ∀ (H : Heap) (locs : List Loc) (cells slots : Nat) (ls : Array Slot) (Q : State → Prop), H.size = h.1 → cells + 1 ≤ R.cells → slots + kk ≤ R.slots → (∀ (H1 : Heap), H1.size = H.size + 1 → (∀ q : Nat, q < H.size → H1[q]? = H[q]?) → va_at D cl (H.size, ev_cv cA x') H1 → W p l e R s m args below meth c H1 locs (cells + 1) (slots + kk) Q (F0 m nx ls stk')) → W p l e R s m args below meth c H locs cells slots Q (F0 m pc ls stk)) :
    ev_Good l cl tyL G cc nL ret nm own Ts d wd pc (ev_fn f) := by
  refine ⟨fun L stk h => ⟨fun st' e1 => ?_, fun o e1 => ?_⟩, fun p e R s m args below meth c D cA lo O b0 oE X => ⟨fun L stk h g1 g2 Q st' e1 r1 r2 k => ?_, fun L stk h g1 g2 e1 => ?_⟩⟩
  · obtain ⟨nx, stk', kk, x', hx, -⟩ := hp L stk h _ e1
    cases hx
    exact ⟨Nat.le_succ _, Nat.le_add_right _ _⟩
  · obtain ⟨nx, stk', kk, x', hx, -⟩ := hp L stk h _ e1
    cases hx
  · obtain ⟨nx, stk', kk, x', hx, hw⟩ := hp L stk h _ e1
    cases hx
    have r1' : h.1 + 1 - b0.1 ≤ R.cells := r1
    have r2' : h.2.1 + kk - b0.2 ≤ R.slots := r2
    intro H locs ls a1 a2 a3 a4 a5 a6
    refine hw p e R s m args below meth c D cA lo O X H locs _ _ ls _ a1.1 (by show h.1 - b0.1 + 1 ≤ R.cells; omega) (by show h.2.1 - b0.2 + kk ≤ R.slots; omega) (fun H1 z oq hat => ?_)
    have hk := k H1 locs ls (a1.new (Nat.le_trans a5 a4) z oq hat) a2 (fun q hq => by rw [oq q (by omega)]; exact a3 q hq) (by rw [z]; omega) a5 a6
    exact W.cs (by show h.1 - b0.1 + 1 = h.1 + 1 - b0.1; omega) (by show h.2.1 - b0.2 + kk = h.2.1 + kk - b0.2; omega) hk
  · obtain ⟨nx, stk', kk, x', hx, -⟩ := hp L stk h _ e1
    cases hx
-- a field is written
def ev_putf (ci k : Nat) (ty : FieldType) (nx : Nat) : ev_Fn := fun L stk h => match stk with
  | v :: .ref a :: r => match h.2.2 a with
    | some (.inr (c, fs)) => if c = ci ∧ k < fs.length ∧ narrow ty v = v ∧ fits ty v = true then some (.inl (nx, L, r, ev_put h a (.inr (ci, fs.set k v)))) else none
    | _ => none
  | _ => none
theorem ok_putf {C ref : String} {T : u_T} {N ci k ix : Nat} {ty : FieldType} {ty0 : Nat → FieldType} (hc : cl[ci]? = some (C, T, N)) (hk : k < N) (hin : ∀ w ∈ u_ws C T N, w ∈ Ts) (hty : ∀ k, k < N → parseFieldDescriptor (T k).2.2.1 = some (ty0 k)) (hnm : ∀ a, a < N → ∀ b, b < N → a ≠ b → (T a).2.1 ≠ (T b).2.1)
    (hlink : Cond.fieldLink own ix ref (T k).2.1 (T k).2.2.1 ∈ Ts) (hsame : (T k).1 = ref ∨ Cond.sameField ref (T k).1 (T k).2.1 (T k).2.2.1 ∈ Ts) (hfin : (T k).2.2.2 = false) (hde : parseFieldDescriptor (T k).2.2.1 = some ty) (hd : decode cc pc = .ok (.putfield ix, 3)) : ev_Good l cl tyL G cc nL ret nm own Ts d wd pc (ev_fn (ev_putf ci k ty (pc + 3))) := by
  refine ev_wr fun L stk h x hx => ?_
  unfold ev_putf at hx
  split at hx
  · rename_i v a r
    split at hx
    · rename_i c0 fs hf
      split at hx
      · rename_i hg
        obtain ⟨hg0, hg1, hg2, hg3⟩ := hg
        subst hg0
        cases hx
        refine ⟨_, _, a, _, _, rfl, hf, fun p e R s m args below meth c D cA lo O X H locs cells slots ls Q hw kk => ?_⟩
        have hts := X.1.2.2.2.2.1
        have hK := X.2.1
        have hap := va_apart (own := own) hts hin ty0 hty hnm hK hc
        obtain ⟨r0, h1, cell, q1, q2, q3, q4⟩ := (hw.2 a _ hf).2
        have hr : r0 = (C, T, N) := Option.some.inj (h1.symm.trans hc)
        subst hr
        obtain ⟨hS, hfc, kC, hkC, hkind⟩ := hK.1 c0 _ hc
        obtain ⟨cf, kf, fi, f, hi, hsl⟩ := hS k hk
        have hlay := hts _ (hin _ (u_in_lay hk))
        unfold u_lay at hlay
        rw [if_neg (by rw [hfin]; decide)] at hlay
        have hst := (u_facts hfc hkC (u_lays hts hin hk) hi).1
        have h6 := u_store hfc hkC hkind hlay hi hde hg2 hg3
        have hff : s.fieldFound? ref (T k).2.1 (T k).2.2.1 = some (cf, kf, fi, f) := by
          rcases hsame with q | q
          · rw [← q]; exact hi
          · exact u_same (hts _ q) _ hi
        refine W.putK X.1.1 X.1.2.1 (f := f) ⟨X.1.2.2.2.1, hts _ hlink, ⟨_, _, _, hff⟩, hst⟩ (by rw [q2]; exact h6) q1 q3 (by rw [hsl]; exact k2_hasslot (q4 k hk)) rfl rfl hd fun H' e1 e2 e3 => ?_
        rw [hsl] at e1 ⊢
        exact kk H' _ e2 e3 ⟨_, hc, t_OB.to (V := updV (vp_V fs) k v) ⟨_, e1, q2, q3, t_set q4 hap hk v⟩ (fun j _ => vp_updV_set hg1 v j)⟩
      · cases hx
    · cases hx
  · cases hx
theorem ok_putF {C ref : String} {T : u_T} {N ci k ix : Nat} {ty : FieldType} {ty0 : Nat → FieldType} (hc : cl[ci]? = some (C, T, N)) (hk : k < N) (hin : ∀ w ∈ u_ws C T N, w ∈ Ts) (hty : ∀ k, k < N → parseFieldDescriptor (T k).2.2.1 = some (ty0 k)) (hnm : ∀ a, a < N → ∀ b, b < N → a ≠ b → (T a).2.1 ≠ (T b).2.1)
    (hlink : Cond.fieldLink own ix ref (T k).2.1 (T k).2.2.1 ∈ Ts) (hsame : (T k).1 = ref) (hfin : (T k).2.2.2 = true) (hini : nm = "<init>") (hdecl : (T k).1 = own) (hde : parseFieldDescriptor (T k).2.2.1 = some ty) (hd : decode cc pc = .ok (.putfield ix, 3)) : ev_Good l cl tyL G cc nL ret nm own Ts d wd pc (ev_fn (ev_putf ci k ty (pc + 3))) := by
  refine ev_wr fun L stk h x hx => ?_
  unfold ev_putf at hx
  split at hx
  · rename_i v a r
    split at hx
    · rename_i c0 fs hf
      split at hx
      · rename_i hg
        obtain ⟨hg0, hg1, hg2, hg3⟩ := hg
        subst hg0
        cases hx
        refine ⟨_, _, a, _, _, rfl, hf, fun p e R s m args below meth c D cA lo O X H locs cells slots ls Q hw kk => ?_⟩
        have hts := X.1.2.2.2.2.1
        have hown := X.1.2.2.2.1
        have hK := X.2.1
        have hap := va_apart (own := own) hts hin ty0 hty hnm hK hc
        obtain ⟨r0, h1, cell, q1, q2, q3, q4⟩ := (hw.2 a _ hf).2
        have hr : r0 = (C, T, N) := Option.some.inj (h1.symm.trans hc)
        subst hr
        obtain ⟨hS, hfc, kC, hkC, hkind⟩ := hK.1 c0 _ hc
        obtain ⟨cf, kf, fi, f, hi, hsl⟩ := hS k hk
        have hlay := hts _ (hin _ (u_in_lay hk))
        unfold u_lay at hlay
        rw [if_pos hfin] at hlay
        have hst := (u_facts hfc hkC (u_lays hts hin hk) hi).1
        have hcf : m.cls = cf := by
          obtain ⟨_, _, c', _, _, _, -, -, hf', -, -, -, hown2, -⟩ := Cond.laysFinal_spec hlay
          have e1 : c' = cf := by have := hi.symm.trans hf'; simp at this; exact this.1.symm
          rw [hdecl] at hown2
          rw [← e1]; exact Option.some.inj (hown.symm.trans hown2)
        have h6 := u_fits hfc hkC hkind (Or.inr hlay) hi hde hg2 hg3
        refine W.putFinK X.1.1 X.1.2.1 hown (hts _ hlink) (show s.fieldFound? ref _ _ = some _ by rw [← hsame]; exact hi) hst hcf (X.1.2.2.2.2.2.2.2.trans hini) (by rw [q2]; exact h6) q1 q3 (by rw [hsl]; exact k2_hasslot (q4 k hk)) rfl rfl hd fun H' e1 e2 e3 => ?_
        rw [hsl] at e1 ⊢
        exact kk H' _ e2 e3 ⟨_, hc, t_OB.to (V := updV (vp_V fs) k v) ⟨_, e1, q2, q3, t_set q4 hap hk v⟩ (fun j _ => vp_updV_set hg1 v j)⟩
      · cases hx
    · cases hx
  · cases hx
-- a new object
def ev_newo (ci N : Nat) (fs : List Value) (nx : Nat) : ev_Fn := fun L stk h => some (.inl (nx, L, .ref h.1 :: stk, ev_new h N (.inr (ci, fs))))
theorem ok_newo {C : String} {T : u_T} {N ci ix : Nat} {fs : List Value} {ty : Nat → FieldType} (hc : cl[ci]? = some (C, T, N)) (hin : ∀ w ∈ u_ws C T N, w ∈ Ts) (hty : ∀ k, k < N → parseFieldDescriptor (T k).2.2.1 = some (ty k)) (hfs : ∀ j, j < N → defaultValue (ty j) = vp_V fs j)
    (hcl : Cond.classLink own ix C ∈ Ts) (hinst : Cond.instantiable C N ∈ Ts) (hini : Cond.initialized C ∈ Ts) (hd : decode cc pc = .ok (.new ix, 3)) : ev_Good l cl tyL G cc nL ret nm own Ts d wd pc (ev_fn (ev_newo ci N fs (pc + 3))) := by
  refine ev_mk fun L stk h x hx => ?_
  unfold ev_newo at hx
  cases hx
  refine ⟨_, _, N, _, rfl, fun p e R s m args below meth c D cA lo O X H locs cells slots ls Q hz r1 r2 kk => ?_⟩
  have hts := X.1.2.2.2.2.1
  have hKn := X.2.1.1 ci _ hc
  refine W.newcK X.1.1 X.1.2.1 X.1.2.2.2.1 (hts _ hcl) (hts _ hinst) (hts _ hini) rfl hd r1 r2 hKn.2.1 hz fun H1 kC hkC e1 z1 o1 => ?_
  rw [← hz] at e1 z1 o1
  exact kk H1 z1 o1 ⟨_, hc, (u_born ty hts hin hKn hkC e1 hty).to hfs⟩
-- arrays of ints and of references
def ev_iald (nx : Nat) : ev_Fn := fun L stk h => match stk with
  | .int i :: .ref a :: r => match h.2.2 a with
    | some (.inl (t, n, .inl f)) => if t = 0 ∧ ¬ (i < 0 ∨ n ≤ i.toNatClampNeg) then some (.inl (nx, L, .int (f i.toNatClampNeg) :: r, h)) else none
    | _ => none
  | _ => none
theorem ok_iald (ht : tyL[0]? = some .int) (hd : decode cc pc = .ok (.iaload, 1)) : ev_Good l cl tyL G cc nL ret nm own Ts d wd pc (ev_fn (ev_iald (pc + 1))) := by
  refine ev_pure fun L stk h x hx => ?_
  unfold ev_iald at hx
  split at hx
  · rename_i i a r
    split at hx
    · rename_i t n0 f hf
      split at hx
      · rename_i hg
        obtain ⟨hg0, hg1⟩ := hg
        subst hg0
        cases hx
        exact ⟨_, _, rfl, fun p e R s m args below meth c D cA lo O X H locs cells slots ls Q hw ho hl kk => va_iald X.1.1 X.1.2.1 X.2.1 (ev_P1 (hw.2 a _ hf).2) 0 0 rfl (ev_ty_get ht) hg1 hd kk⟩
      · cases hx
    · cases hx
  · cases hx
def ev_iast (nx : Nat) : ev_Fn := fun L stk h => match stk with
  | .int x :: .int i :: .ref a :: r => match h.2.2 a with
    | some (.inl (t, n, .inl f)) => if t = 0 ∧ ¬ (i < 0 ∨ n ≤ i.toNatClampNeg) then some (.inl (nx, L, r, ev_put h a (.inl (0, n, .inl (va_up f i.toNatClampNeg x))))) else none
    | _ => none
  | _ => none
theorem ok_iast (ht : tyL[0]? = some .int) (hd : decode cc pc = .ok (.iastore, 1)) : ev_Good l cl tyL G cc nL ret nm own Ts d wd pc (ev_fn (ev_iast (pc + 1))) := by
  refine ev_wr fun L stk h x hx => ?_
  unfold ev_iast at hx
  split at hx
  · rename_i x0 i a r
    split at hx
    · rename_i t n0 f hf
      split at hx
      · rename_i hg
        obtain ⟨hg0, hg1⟩ := hg
        subst hg0
        cases hx
        refine ⟨_, _, a, _, _, rfl, hf, fun p e R s m args below meth c D cA lo O X H locs cells slots ls Q hw kk => ?_⟩
        refine W.iast X.1.1 X.1.2.1 (hw.2 a _ hf).2 ((X.2.1.2 0 _ (ev_ty_get ht)).1 n0 (fun j => .int (f j))) (fun h => by cases h) (by show ¬ (i < 0 ∨ (arrV _ _ _).slots.size ≤ _); rw [arrV_size]; exact hg1) rfl rfl hd fun H1 e z oq => ?_
        refine kk H1 _ z oq ?_
        show H1[a]? = some (vp_cell _ _)
        rw [e]
        show some ((vp_cell _ _).setSlot _ _) = _
        rw [vp_cell_i, vp_cell_i, arrV_store]
        congr 2
        funext q
        by_cases hq : q = i.toNatClampNeg
        · subst hq
          simp [updV, va_up]
        · simp [updV, va_up, hq]
      · cases hx
    · cases hx
  · cases hx
-- the class's number and its own check: an array of references is of kind t, its component tyL t
def ev_aaldT (t nx : Nat) : ev_Fn := fun L stk h => match stk with
  | .int i :: .ref a :: r => match h.2.2 a with
    | some (.inl (t', n, .inr (.inr (.inr (.inr f))))) => if t' = t ∧ ¬ (i < 0 ∨ n ≤ i.toNatClampNeg) then some (.inl (nx, L, va_rf (f i.toNatClampNeg) :: r, h)) else none
    | _ => none
  | _ => none
theorem ok_aaldT {t : Nat} {C : String} (ht : tyL[t]? = some (.object C)) (hd : decode cc pc = .ok (.aaload, 1)) : ev_Good l cl tyL G cc nL ret nm own Ts d wd pc (ev_fn (ev_aaldT t (pc + 1))) := by
  refine ev_pure fun L stk h x hx => ?_
  unfold ev_aaldT at hx
  split at hx
  · rename_i i a r
    split at hx
    · rename_i t' n0 f hf
      split at hx
      · rename_i hg
        obtain ⟨hg0, hg1⟩ := hg
        subst hg0
        cases hx
        exact ⟨_, _, rfl, fun p e R s m args below meth c D cA lo O X H locs cells slots ls Q hw ho hl kk => va_aldq X.1.1 X.1.2.1 X.2.1 (ev_P1 (hw.2 a _ hf).2) 0 t' rfl (ev_ty_get ht) hg1 hd kk⟩
      · cases hx
    · cases hx
  · cases hx
end WOPS
end
section
/-! Calls: what the callee's contract says is what the step does. -/
def ev_call (F : ev_F) (na nx : Nat) : ev_Op := fun L stk h x => ∃ o : ev_O, na ≤ stk.length ∧ ((stk.drop na).map fun v => v.category).sum ≤ 8 ∧ F (stk.take na).reverse h o ∧ x = .inl (nx, L, o.1.toList ++ stk.drop na, o.2)
def ev_callR (ci : Nat) (F : ev_F) (na nx : Nat) : ev_Op := fun L stk h x => ∃ (o : ev_O) (b : Nat) (As : List Value) (fs : List Value), na ≤ stk.length ∧ ((stk.drop na).map fun v => v.category).sum ≤ 8 ∧ (stk.take na).reverse = .ref b :: As ∧ h.2.2 b = some (.inr (ci, fs)) ∧ F (stk.take na).reverse h o ∧ x = .inl (nx, L, o.1.toList ++ stk.drop na, o.2)
section COPS
variable {l : Launch} {cl : List vw_C} {tyL : List FieldType} {G : Nat → (State → Prop) → Prop} {cc : ByteArray} {nL : Nat} {ret : Option FieldType} {nm own : String} {Ts : List Cond} {d wd pc : Nat}
theorem ev_callW {p : Program} {e : Env} {R : Room} {s : State} {m : MethodId} {args : Array Value} {below : List Frame} {meth : Method} {c : Code} {H : Heap} {locs : List Loc} {cells slots mc ms : Nat} {Q : State → Prop} {D : va_G} {cA : Nat → ClassId} {lo : Nat} {O : State → Prop} {ls : Array Slot} {st0 rest : List Value} {r : Option Value} {h' : ev_H} {a : Array Value}
    (hr : va_Run p l e R s m args below meth c H locs cells slots mc ms (F0 m pc ls st0) rest (ev_Qc D cl cA tyL lo O r h' a) (fun q => lo ≤ q))
    (kk : ∀ (t : State) (L : List Loc), (∀ q ∈ L, lo ≤ q.base) → ev_U D cl cA tyL lo O h' t → H.size ≤ t.heap.size → (∀ q, q < lo → t.heap[q]? = H[q]?) → W p l e R s m args below meth c t.heap (locs ++ L) (cells + mc) (slots + ms) Q (F0 m (pc + 3) ls (r.toList ++ rest))) : W p l e R s m args below meth c H locs cells slots Q (F0 m pc ls st0) := by
  intro T hT X
  obtain ⟨v, st₀, t, T', L, h0, X', hL, e1, e2, hq, st⟩ := hr T hT X
  obtain ⟨hv, hU, hz, hk⟩ := hq
  cases hv
  rw [h0] at hz hk
  obtain ⟨t2, a1, b1⟩ := kk t L hL hU hz hk T' e1 X'
  exact ⟨t2, st t2 a1, b1⟩
theorem ev_blind {D : va_G} {cA : Nat → ClassId} {lo : Nat} {O : State → Prop} {h : ev_H} {as : List Value} (hSt : ev_St lo O) : FrameBlind (va_Pc as (ev_U D cl cA tyL lo O h)) := by
  intro a U g mk q
  obtain ⟨q0, q1, q2, q3, q4⟩ := q
  exact ⟨q0, q1, va_K.moved (u := U) (U := U.calling g mk a) (Vm.Alike.refl U.vm) q2, hSt U (U.calling g mk a) (Or.inr rfl) (Nat.le_refl _) (fun _ _ => rfl) q3, q4⟩

def ev_callI (F : ev_F) (na nx : Nat) : ev_Op := fun L stk h x => ∃ (o : ev_O) (b : Nat) (As : List Value), na ≤ stk.length ∧ ((stk.drop na).map fun v => v.category).sum ≤ 8 ∧ (stk.take na).reverse = .ref b :: As ∧ F (stk.take na).reverse h o ∧ x = .inl (nx, L, o.1.toList ++ stk.drop na, o.2)
theorem ok_callS {y : MethodName} {bytes : ByteArray} {maxL ix nn d' wd' : Nat} {rt : Option FieldType} {ws : List Cond} {F : ev_F} (hM : ev_Met l cl tyL G y ws d' wd' F)
    (hcw : ∀ (R : Room) (s : State) (args : Array Value) (O : State → Prop) (lo mc ms : Nat), (∀ w ∈ Ts, w.before args s = true) → O s → G lo O → d ≤ R.frames → wd ≤ R.locals → CallB R s args own ix y bytes maxL rt ws (ev_rm d' wd' mc ms) mc ms nn ∧ (Cond.static y).before args s = true) (hd : decode cc pc = .ok (.invokestatic ix, 3)) : ev_Good l cl tyL G cc nL ret nm own Ts d wd pc (ev_call F nn (pc + 3)) := by
  refine ⟨fun L stk h => ⟨fun st' e1 => ?_, fun o e1 => ?_⟩, fun p e R s m args below meth c D cA lo O b0 oE X => ⟨fun L stk h g1 g2 Q st' e1 r1 r2 k => ?_, fun L stk h g1 g2 e1 => ?_⟩⟩
  · obtain ⟨o, hn, hs, hF, hx⟩ := e1
    cases hx
    exact ⟨(hM _ _ o.1 o.2 hF).1, (hM _ _ o.1 o.2 hF).2.1⟩
  · obtain ⟨o2, hn, hs, hF, hx⟩ := e1
    cases hx
  · obtain ⟨o, hn, hs, hF, hx⟩ := e1
    cases hx
    obtain ⟨m1, m2, hm⟩ := hM _ _ o.1 o.2 hF
    have hm := hm D cA lo O X.2.2.2.1 X.2.2.2.2.1
    intro H locs ls a1 a2 a3 a4 a5 a6
    have r1' : o.2.1 - b0.1 ≤ R.cells := r1
    have r2' : o.2.2.1 - b0.2 ≤ R.slots := r2
    have hlen : ((stk.take nn).reverse).length = nn := by rw [List.length_reverse, List.length_take]; omega
    refine ev_callW (va_runS (As := (stk.take nn).reverse) (rest := stk.drop nn) ⟨X.1.1, X.1.2.1, X.1.2.2.1, X.1.2.2.2.1, X.1.2.2.2.2.1⟩ hm (hcw R s args O lo _ _ X.1.2.2.2.2.1 X.2.2.1 X.2.2.2.2.1 X.2.2.2.2.2.1 X.2.2.2.2.2.2) ⟨ev_blind X.2.2.2.1, fun U hU hW => ⟨rfl, by rw [hU]; exact a1, va_K.moved hW.alike X.2.1, X.2.2.2.1 s U (Or.inl hW) (by rw [hU]; exact a4) (fun q hq => by rw [hU]; exact a3 q hq) X.2.2.1, by rw [hU]; exact Nat.le_trans a5 a4⟩⟩ rfl hlen a6.1 (show stk = ((stk.take nn).reverse).reverse ++ stk.drop nn by rw [List.reverse_reverse, List.take_append_drop]) (lv_room hs) hd ⟨by show h.1 - b0.1 + (o.2.1 - h.1) ≤ R.cells; omega, by show h.2.1 - b0.2 + (o.2.2.1 - h.2.1) ≤ R.slots; omega⟩) (fun t L hL hU hz hk => ?_)
    have hk2 := k t.heap (locs ++ L) ls hU.1 (fun q hq => by
      rcases List.mem_append.mp hq with g | g
      · exact a2 q g
      · exact hL q g) (fun q hq => (hk q hq).trans (a3 q hq)) (Nat.le_trans a4 hz) a5 a6
    exact W.cs (by show h.1 - b0.1 + (o.2.1 - h.1) = o.2.1 - b0.1; omega) (by show h.2.1 - b0.2 + (o.2.2.1 - h.2.1) = o.2.2.1 - b0.2; omega) hk2
  · obtain ⟨o, hn, hs, hF, hx⟩ := e1
    cases hx
theorem ok_callV {y : MethodName} {bytes : ByteArray} {maxL ix nn d' wd' : Nat} {rt : Option FieldType} {ws : List Cond} {F : ev_F} {C : String} {T : u_T} {N ci : Nat} (hc : cl[ci]? = some (C, T, N)) (hM : ev_Met l cl tyL G y ws d' wd' F)
    (hcw : ∀ (R : Room) (s : State) (args : Array Value) (O : State → Prop) (lo mc ms : Nat), (∀ w ∈ Ts, w.before args s = true) → O s → G lo O → d ≤ R.frames → wd ≤ R.locals → CallW R s args own C ix y bytes maxL rt ws (ev_rm d' wd' mc ms) mc ms nn) (hd : decode cc pc = .ok (.invokevirtual ix, 3)) : ev_Good l cl tyL G cc nL ret nm own Ts d wd pc (ev_callR ci F (nn + 1) (pc + 3)) := by
  refine ⟨fun L stk h => ⟨fun st' e1 => ?_, fun o e1 => ?_⟩, fun p e R s m args below meth c D cA lo O b0 oE X => ⟨fun L stk h g1 g2 Q st' e1 r1 r2 k => ?_, fun L stk h g1 g2 e1 => ?_⟩⟩
  · obtain ⟨o, b, As, fs, hn, hs, hre, hf, hF, hx⟩ := e1
    cases hx
    exact ⟨(hM _ _ o.1 o.2 hF).1, (hM _ _ o.1 o.2 hF).2.1⟩
  · obtain ⟨o2, b, As, fs, hn, hs, hre, hf, hF, hx⟩ := e1
    cases hx
  · obtain ⟨o, b, As, fs, hn, hs, hre, hf, hF, hx⟩ := e1
    cases hx
    obtain ⟨m1, m2, hm⟩ := hM _ _ o.1 o.2 hF
    have hm := hm D cA lo O X.2.2.2.1 X.2.2.2.2.1
    intro H locs ls a1 a2 a3 a4 a5 a6
    have r1' : o.2.1 - b0.1 ≤ R.cells := r1
    have r2' : o.2.2.1 - b0.2 ≤ R.slots := r2
    have hlen : As.length = nn := by have q := congrArg List.length hre; rw [List.length_reverse, List.length_take, List.length_cons] at q; omega
    have hst : stk = As.reverse ++ .ref b :: stk.drop (nn + 1) := by
      have q := congrArg List.reverse hre
      rw [List.reverse_reverse, List.reverse_cons] at q
      have q2 := List.take_append_drop (nn + 1) stk
      rw [q, List.append_assoc] at q2
      exact q2.symm
    rw [hre] at hm
    have hcell : ∃ cellB : Cell, H[b]? = some cellB ∧ cellB.vm.isStatics = false ∧ s.vm.findClass C = some cellB.cls := by
      obtain ⟨r0, h1, cell, q1, q2, q3, q4⟩ := (a1.2 b _ hf).2
      exact ⟨cell, q1, by rw [q3]; rfl, by rw [q2]; exact (X.2.1.1 ci _ hc).2.1⟩
    refine ev_callW (va_runV (As := As) (rest := stk.drop (nn + 1)) (b := b) ⟨X.1.1, X.1.2.1, X.1.2.2.1, X.1.2.2.2.1, X.1.2.2.2.2.1⟩ hm (hcw R s args O lo _ _ X.1.2.2.2.2.1 X.2.2.1 X.2.2.2.2.1 X.2.2.2.2.2.1 X.2.2.2.2.2.2) ⟨ev_blind X.2.2.2.1, hcell, fun U hU hW => ⟨rfl, by rw [hU]; exact a1, va_K.moved hW.alike X.2.1, X.2.2.2.1 s U (Or.inl hW) (by rw [hU]; exact a4) (fun q hq => by rw [hU]; exact a3 q hq) X.2.2.1, by rw [hU]; exact Nat.le_trans a5 a4⟩⟩ rfl hlen a6.1 hst (lv_room hs) hd ⟨by show h.1 - b0.1 + (o.2.1 - h.1) ≤ R.cells; omega, by show h.2.1 - b0.2 + (o.2.2.1 - h.2.1) ≤ R.slots; omega⟩) (fun t L hL hU hz hk => ?_)
    have hk2 := k t.heap (locs ++ L) ls hU.1 (fun q hq => by
      rcases List.mem_append.mp hq with g | g
      · exact a2 q g
      · exact hL q g) (fun q hq => (hk q hq).trans (a3 q hq)) (Nat.le_trans a4 hz) a5 a6
    exact W.cs (by show h.1 - b0.1 + (o.2.1 - h.1) = o.2.1 - b0.1; omega) (by show h.2.1 - b0.2 + (o.2.2.1 - h.2.1) = o.2.2.1 - b0.2; omega) hk2
  · obtain ⟨o, b, As, fs, hn, hs, hre, hf, hF, hx⟩ := e1
    cases hx
theorem ok_callI {y : MethodName} {bytes : ByteArray} {maxL ix nn d' wd' : Nat} {ws : List Cond} {F : ev_F} (hM : ev_Met l cl tyL G y ws d' wd' F)
    (hcw : ∀ (R : Room) (s : State) (args : Array Value) (O : State → Prop) (lo mc ms : Nat), (∀ w ∈ Ts, w.before args s = true) → O s → G lo O → d ≤ R.frames → wd ≤ R.locals → CallB R s args own ix y bytes maxL none ws (ev_rm d' wd' mc ms) mc ms nn ∧ y.name = "<init>" ∧ (Cond.instanceMethod y).before args s = true) (hd : decode cc pc = .ok (.invokespecial ix, 3)) : ev_Good l cl tyL G cc nL ret nm own Ts d wd pc (ev_callI F (nn + 1) (pc + 3)) := by
  refine ⟨fun L stk h => ⟨fun st' e1 => ?_, fun o e1 => ?_⟩, fun p e R s m args below meth c D cA lo O b0 oE X => ⟨fun L stk h g1 g2 Q st' e1 r1 r2 k => ?_, fun L stk h g1 g2 e1 => ?_⟩⟩
  · obtain ⟨o, b, As, hn, hs, hre, hF, hx⟩ := e1
    cases hx
    exact ⟨(hM _ _ o.1 o.2 hF).1, (hM _ _ o.1 o.2 hF).2.1⟩
  · obtain ⟨o2, b, As, hn, hs, hre, hF, hx⟩ := e1
    cases hx
  · obtain ⟨o, b, As, hn, hs, hre, hF, hx⟩ := e1
    cases hx
    obtain ⟨m1, m2, hm⟩ := hM _ _ o.1 o.2 hF
    have hm := hm D cA lo O X.2.2.2.1 X.2.2.2.2.1
    intro H locs ls a1 a2 a3 a4 a5 a6
    have r1' : o.2.1 - b0.1 ≤ R.cells := r1
    have r2' : o.2.2.1 - b0.2 ≤ R.slots := r2
    have hlen : As.length = nn := by have q := congrArg List.length hre; rw [List.length_reverse, List.length_take, List.length_cons] at q; omega
    have hst : stk = As.reverse ++ .ref b :: stk.drop (nn + 1) := by
      have q := congrArg List.reverse hre
      rw [List.reverse_reverse, List.reverse_cons] at q
      have q2 := List.take_append_drop (nn + 1) stk
      rw [q, List.append_assoc] at q2
      exact q2.symm
    rw [hre] at hm
    refine ev_callW (va_runI (As := As) (rest := stk.drop (nn + 1)) (b := b) ⟨X.1.1, X.1.2.1, X.1.2.2.1, X.1.2.2.2.1, X.1.2.2.2.2.1⟩ hm (hcw R s args O lo _ _ X.1.2.2.2.2.1 X.2.2.1 X.2.2.2.2.1 X.2.2.2.2.2.1 X.2.2.2.2.2.2) ⟨ev_blind X.2.2.2.1, fun U hU hW => ⟨rfl, by rw [hU]; exact a1, va_K.moved hW.alike X.2.1, X.2.2.2.1 s U (Or.inl hW) (by rw [hU]; exact a4) (fun q hq => by rw [hU]; exact a3 q hq) X.2.2.1, by rw [hU]; exact Nat.le_trans a5 a4⟩⟩ rfl hlen a6.1 hst (lv_room hs) hd ⟨by show h.1 - b0.1 + (o.2.1 - h.1) ≤ R.cells; omega, by show h.2.1 - b0.2 + (o.2.2.1 - h.2.1) ≤ R.slots; omega⟩) (fun t L hL hU hz hk => ?_)
    have hk2 := k t.heap (locs ++ L) ls hU.1 (fun q hq => by
      rcases List.mem_append.mp hq with g | g
      · exact a2 q g
      · exact hL q g) (fun q hq => (hk q hq).trans (a3 q hq)) (Nat.le_trans a4 hz) a5 a6
    exact W.cs (by show h.1 - b0.1 + (o.2.1 - h.1) = o.2.1 - b0.1; omega) (by show h.2.1 - b0.2 + (o.2.2.1 - h.2.1) = o.2.2.1 - b0.2; omega) hk2
  · obtain ⟨o, b, As, hn, hs, hre, hF, hx⟩ := e1
    cases hx
theorem ok_callSN {y : MethodName} {host : String} {bytes : ByteArray} {maxL ix nn d' wd' : Nat} {rt : Option FieldType} {ws : List Cond} {F : ev_F} (hM : ev_Met l cl tyL G y ws d' wd' F)
    (hcw : ∀ (R : Room) (s : State) (args : Array Value) (O : State → Prop) (lo mc ms : Nat), (∀ w ∈ Ts, w.before args s = true) → O s → G lo O → d ≤ R.frames → wd ≤ R.locals → va_CN R s args own ix y host bytes maxL rt ws (ev_rm d' wd' mc ms) mc ms nn ∧ (Cond.static y).before args s = true ∧ True) (hd : decode cc pc = .ok (.invokestatic ix, 3)) : ev_Good l cl tyL G cc nL ret nm own Ts d wd pc (ev_call F nn (pc + 3)) := by
  refine ⟨fun L stk h => ⟨fun st' e1 => ?_, fun o e1 => ?_⟩, fun p e R s m args below meth c D cA lo O b0 oE X => ⟨fun L stk h g1 g2 Q st' e1 r1 r2 k => ?_, fun L stk h g1 g2 e1 => ?_⟩⟩
  · obtain ⟨o, hn, hs, hF, hx⟩ := e1
    cases hx
    exact ⟨(hM _ _ o.1 o.2 hF).1, (hM _ _ o.1 o.2 hF).2.1⟩
  · obtain ⟨o2, hn, hs, hF, hx⟩ := e1
    cases hx
  · obtain ⟨o, hn, hs, hF, hx⟩ := e1
    cases hx
    obtain ⟨m1, m2, hm⟩ := hM _ _ o.1 o.2 hF
    have hm := hm D cA lo O X.2.2.2.1 X.2.2.2.2.1
    intro H locs ls a1 a2 a3 a4 a5 a6
    have r1' : o.2.1 - b0.1 ≤ R.cells := r1
    have r2' : o.2.2.1 - b0.2 ≤ R.slots := r2
    have hlen : ((stk.take nn).reverse).length = nn := by rw [List.length_reverse, List.length_take]; omega
    refine ev_callW (va_runSN (As := (stk.take nn).reverse) (rest := stk.drop nn) ⟨X.1.1, X.1.2.1, X.1.2.2.1, X.1.2.2.2.1, X.1.2.2.2.2.1⟩ hm (hcw R s args O lo _ _ X.1.2.2.2.2.1 X.2.2.1 X.2.2.2.2.1 X.2.2.2.2.2.1 X.2.2.2.2.2.2) ⟨ev_blind X.2.2.2.1, fun U hU hW => ⟨rfl, by rw [hU]; exact a1, va_K.moved hW.alike X.2.1, X.2.2.2.1 s U (Or.inl hW) (by rw [hU]; exact a4) (fun q hq => by rw [hU]; exact a3 q hq) X.2.2.1, by rw [hU]; exact Nat.le_trans a5 a4⟩⟩ rfl hlen a6.1 (show stk = ((stk.take nn).reverse).reverse ++ stk.drop nn by rw [List.reverse_reverse, List.take_append_drop]) (lv_room hs) hd ⟨by show h.1 - b0.1 + (o.2.1 - h.1) ≤ R.cells; omega, by show h.2.1 - b0.2 + (o.2.2.1 - h.2.1) ≤ R.slots; omega⟩) (fun t L hL hU hz hk => ?_)
    have hk2 := k t.heap (locs ++ L) ls hU.1 (fun q hq => by
      rcases List.mem_append.mp hq with g | g
      · exact a2 q g
      · exact hL q g) (fun q hq => (hk q hq).trans (a3 q hq)) (Nat.le_trans a4 hz) a5 a6
    exact W.cs (by show h.1 - b0.1 + (o.2.1 - h.1) = o.2.1 - b0.1; omega) (by show h.2.1 - b0.2 + (o.2.2.1 - h.2.1) = o.2.2.1 - b0.2; omega) hk2
  · obtain ⟨o, hn, hs, hF, hx⟩ := e1
    cases hx
theorem ok_callVN {y : MethodName} {host : String} {bytes : ByteArray} {maxL ix nn d' wd' : Nat} {rt : Option FieldType} {ws : List Cond} {F : ev_F} {C : String} {T : u_T} {N ci : Nat} (hc : cl[ci]? = some (C, T, N)) (hM : ev_Met l cl tyL G y ws d' wd' F)
    (hcw : ∀ (R : Room) (s : State) (args : Array Value) (O : State → Prop) (lo mc ms : Nat), (∀ w ∈ Ts, w.before args s = true) → O s → G lo O → d ≤ R.frames → wd ≤ R.locals → va_CN R s args own ix y host bytes maxL rt ws (ev_rm d' wd' mc ms) mc ms nn ∧ (Cond.instanceMethod y).before args s = true ∧ (Cond.selects C y y).before args s = true) (hd : decode cc pc = .ok (.invokevirtual ix, 3)) : ev_Good l cl tyL G cc nL ret nm own Ts d wd pc (ev_callR ci F (nn + 1) (pc + 3)) := by
  refine ⟨fun L stk h => ⟨fun st' e1 => ?_, fun o e1 => ?_⟩, fun p e R s m args below meth c D cA lo O b0 oE X => ⟨fun L stk h g1 g2 Q st' e1 r1 r2 k => ?_, fun L stk h g1 g2 e1 => ?_⟩⟩
  · obtain ⟨o, b, As, fs, hn, hs, hre, hf, hF, hx⟩ := e1
    cases hx
    exact ⟨(hM _ _ o.1 o.2 hF).1, (hM _ _ o.1 o.2 hF).2.1⟩
  · obtain ⟨o2, b, As, fs, hn, hs, hre, hf, hF, hx⟩ := e1
    cases hx
  · obtain ⟨o, b, As, fs, hn, hs, hre, hf, hF, hx⟩ := e1
    cases hx
    obtain ⟨m1, m2, hm⟩ := hM _ _ o.1 o.2 hF
    have hm := hm D cA lo O X.2.2.2.1 X.2.2.2.2.1
    intro H locs ls a1 a2 a3 a4 a5 a6
    have r1' : o.2.1 - b0.1 ≤ R.cells := r1
    have r2' : o.2.2.1 - b0.2 ≤ R.slots := r2
    have hlen : As.length = nn := by have q := congrArg List.length hre; rw [List.length_reverse, List.length_take, List.length_cons] at q; omega
    have hst : stk = As.reverse ++ .ref b :: stk.drop (nn + 1) := by
      have q := congrArg List.reverse hre
      rw [List.reverse_reverse, List.reverse_cons] at q
      have q2 := List.take_append_drop (nn + 1) stk
      rw [q, List.append_assoc] at q2
      exact q2.symm
    rw [hre] at hm
    have hcell : ∃ cellB : Cell, H[b]? = some cellB ∧ cellB.vm.isStatics = false ∧ s.vm.findClass C = some cellB.cls := by
      obtain ⟨r0, h1, cell, q1, q2, q3, q4⟩ := (a1.2 b _ hf).2
      exact ⟨cell, q1, by rw [q3]; rfl, by rw [q2]; exact (X.2.1.1 ci _ hc).2.1⟩
    refine ev_callW (va_runVN (As := As) (rest := stk.drop (nn + 1)) (b := b) ⟨X.1.1, X.1.2.1, X.1.2.2.1, X.1.2.2.2.1, X.1.2.2.2.2.1⟩ hm (hcw R s args O lo _ _ X.1.2.2.2.2.1 X.2.2.1 X.2.2.2.2.1 X.2.2.2.2.2.1 X.2.2.2.2.2.2) ⟨ev_blind X.2.2.2.1, hcell, fun U hU hW => ⟨rfl, by rw [hU]; exact a1, va_K.moved hW.alike X.2.1, X.2.2.2.1 s U (Or.inl hW) (by rw [hU]; exact a4) (fun q hq => by rw [hU]; exact a3 q hq) X.2.2.1, by rw [hU]; exact Nat.le_trans a5 a4⟩⟩ rfl hlen a6.1 hst (lv_room hs) hd ⟨by show h.1 - b0.1 + (o.2.1 - h.1) ≤ R.cells; omega, by show h.2.1 - b0.2 + (o.2.2.1 - h.2.1) ≤ R.slots; omega⟩) (fun t L hL hU hz hk => ?_)
    have hk2 := k t.heap (locs ++ L) ls hU.1 (fun q hq => by
      rcases List.mem_append.mp hq with g | g
      · exact a2 q g
      · exact hL q g) (fun q hq => (hk q hq).trans (a3 q hq)) (Nat.le_trans a4 hz) a5 a6
    exact W.cs (by show h.1 - b0.1 + (o.2.1 - h.1) = o.2.1 - b0.1; omega) (by show h.2.1 - b0.2 + (o.2.2.1 - h.2.1) = o.2.2.1 - b0.2; omega) hk2
  · obtain ⟨o, b, As, fs, hn, hs, hre, hf, hF, hx⟩ := e1
    cases hx
theorem ok_callIN {y : MethodName} {host : String} {bytes : ByteArray} {maxL ix nn d' wd' : Nat} {ws : List Cond} {F : ev_F} (hM : ev_Met l cl tyL G y ws d' wd' F)
    (hcw : ∀ (R : Room) (s : State) (args : Array Value) (O : State → Prop) (lo mc ms : Nat), (∀ w ∈ Ts, w.before args s = true) → O s → G lo O → d ≤ R.frames → wd ≤ R.locals → va_CN R s args own ix y host bytes maxL none ws (ev_rm d' wd' mc ms) mc ms nn ∧ y.name = "<init>" ∧ (Cond.instanceMethod y).before args s = true) (hd : decode cc pc = .ok (.invokespecial ix, 3)) : ev_Good l cl tyL G cc nL ret nm own Ts d wd pc (ev_callI F (nn + 1) (pc + 3)) := by
  refine ⟨fun L stk h => ⟨fun st' e1 => ?_, fun o e1 => ?_⟩, fun p e R s m args below meth c D cA lo O b0 oE X => ⟨fun L stk h g1 g2 Q st' e1 r1 r2 k => ?_, fun L stk h g1 g2 e1 => ?_⟩⟩
  · obtain ⟨o, b, As, hn, hs, hre, hF, hx⟩ := e1
    cases hx
    exact ⟨(hM _ _ o.1 o.2 hF).1, (hM _ _ o.1 o.2 hF).2.1⟩
  · obtain ⟨o2, b, As, hn, hs, hre, hF, hx⟩ := e1
    cases hx
  · obtain ⟨o, b, As, hn, hs, hre, hF, hx⟩ := e1
    cases hx
    obtain ⟨m1, m2, hm⟩ := hM _ _ o.1 o.2 hF
    have hm := hm D cA lo O X.2.2.2.1 X.2.2.2.2.1
    intro H locs ls a1 a2 a3 a4 a5 a6
    have r1' : o.2.1 - b0.1 ≤ R.cells := r1
    have r2' : o.2.2.1 - b0.2 ≤ R.slots := r2
    have hlen : As.length = nn := by have q := congrArg List.length hre; rw [List.length_reverse, List.length_take, List.length_cons] at q; omega
    have hst : stk = As.reverse ++ .ref b :: stk.drop (nn + 1) := by
      have q := congrArg List.reverse hre
      rw [List.reverse_reverse, List.reverse_cons] at q
      have q2 := List.take_append_drop (nn + 1) stk
      rw [q, List.append_assoc] at q2
      exact q2.symm
    rw [hre] at hm
    refine ev_callW (va_runIN (As := As) (rest := stk.drop (nn + 1)) (b := b) ⟨X.1.1, X.1.2.1, X.1.2.2.1, X.1.2.2.2.1, X.1.2.2.2.2.1⟩ hm (hcw R s args O lo _ _ X.1.2.2.2.2.1 X.2.2.1 X.2.2.2.2.1 X.2.2.2.2.2.1 X.2.2.2.2.2.2) ⟨ev_blind X.2.2.2.1, fun U hU hW => ⟨rfl, by rw [hU]; exact a1, va_K.moved hW.alike X.2.1, X.2.2.2.1 s U (Or.inl hW) (by rw [hU]; exact a4) (fun q hq => by rw [hU]; exact a3 q hq) X.2.2.1, by rw [hU]; exact Nat.le_trans a5 a4⟩⟩ rfl hlen a6.1 hst (lv_room hs) hd ⟨by show h.1 - b0.1 + (o.2.1 - h.1) ≤ R.cells; omega, by show h.2.1 - b0.2 + (o.2.2.1 - h.2.1) ≤ R.slots; omega⟩) (fun t L hL hU hz hk => ?_)
    have hk2 := k t.heap (locs ++ L) ls hU.1 (fun q hq => by
      rcases List.mem_append.mp hq with g | g
      · exact a2 q g
      · exact hL q g) (fun q hq => (hk q hq).trans (a3 q hq)) (Nat.le_trans a4 hz) a5 a6
    exact W.cs (by show h.1 - b0.1 + (o.2.1 - h.1) = o.2.1 - b0.1; omega) (by show h.2.1 - b0.2 + (o.2.2.1 - h.2.1) = o.2.2.1 - b0.2; omega) hk2
  · obtain ⟨o, b, As, hn, hs, hre, hF, hx⟩ := e1
    cases hx
end COPS
end
section
/-! What is proved of the evaluator's runs: goal first, as with the machine, over states of the evaluator alone. -/
def ev_W (C : ev_C) (st : ev_S) (Q : ev_O → Prop) : Prop := ∃ n o, ev_run C n st o ∧ Q o
def ev_M (F : ev_F) (as : List Value) (h : ev_H) (Q : ev_O → Prop) : Prop := ∃ o, F as h o ∧ Q o
theorem ev_W.fn {C : ev_C} {pc : Nat} {L : ev_L} {stk : List Value} {h : ev_H} {f : ev_Fn} {st' : ev_S} {Q : ev_O → Prop} (hf : ev_find C pc = some (ev_fn f)) (hx : f L stk h = some (.inl st')) (k : ev_W C st' Q) : ev_W C (pc, L, stk, h) Q := by
  obtain ⟨n, o, hr, hq⟩ := k
  exact ⟨n + 1, o, ⟨ev_fn f, hf, Or.inl ⟨st', hx, hr⟩⟩, hq⟩
theorem ev_W.ret {C : ev_C} {pc : Nat} {L : ev_L} {stk : List Value} {h : ev_H} {f : ev_Fn} {o : ev_O} {Q : ev_O → Prop} (hf : ev_find C pc = some (ev_fn f)) (hx : f L stk h = some (.inr o)) (k : Q o) : ev_W C (pc, L, stk, h) Q := ⟨1, o, ⟨ev_fn f, hf, Or.inr hx⟩, k⟩
theorem ev_W.call {C : ev_C} {pc : Nat} {L : ev_L} {stk : List Value} {h : ev_H} {F : ev_F} {na nx : Nat} {as rest : List Value} {Q : ev_O → Prop} (hf : ev_find C pc = some (ev_call F na nx)) (hn : na ≤ stk.length) (hs : ((stk.drop na).map fun v => v.category).sum ≤ 8) (ha : (stk.take na).reverse = as) (hr : stk.drop na = rest)
    (k : ev_M F as h (fun o => ev_W C (nx, L, o.1.toList ++ rest, o.2) Q)) : ev_W C (pc, L, stk, h) Q := by
  subst ha hr
  obtain ⟨o, hF, n, o2, hr, hq⟩ := k
  exact ⟨n + 1, o2, ⟨_, hf, Or.inl ⟨_, ⟨o, hn, hs, hF, rfl⟩, hr⟩⟩, hq⟩
theorem ev_W.callR {C : ev_C} {pc : Nat} {L : ev_L} {stk : List Value} {h : ev_H} {F : ev_F} {ci na nx b : Nat} {As fs rest : List Value} {Q : ev_O → Prop} (hf : ev_find C pc = some (ev_callR ci F na nx)) (hn : na ≤ stk.length) (hs : ((stk.drop na).map fun v => v.category).sum ≤ 8) (ha : (stk.take na).reverse = .ref b :: As) (hr : stk.drop na = rest) (hb : h.2.2 b = some (.inr (ci, fs)))
    (k : ev_M F (.ref b :: As) h (fun o => ev_W C (nx, L, o.1.toList ++ rest, o.2) Q)) : ev_W C (pc, L, stk, h) Q := by
  subst hr
  obtain ⟨o, hF, n, o2, hr, hq⟩ := k
  exact ⟨n + 1, o2, ⟨_, hf, Or.inl ⟨_, ⟨o, b, As, fs, hn, hs, ha, hb, by rw [ha]; exact hF, rfl⟩, hr⟩⟩, hq⟩
theorem ev_W.callI {C : ev_C} {pc : Nat} {L : ev_L} {stk : List Value} {h : ev_H} {F : ev_F} {na nx b : Nat} {As rest : List Value} {Q : ev_O → Prop} (hf : ev_find C pc = some (ev_callI F na nx)) (hn : na ≤ stk.length) (hs : ((stk.drop na).map fun v => v.category).sum ≤ 8) (ha : (stk.take na).reverse = .ref b :: As) (hr : stk.drop na = rest)
    (k : ev_M F (.ref b :: As) h (fun o => ev_W C (nx, L, o.1.toList ++ rest, o.2) Q)) : ev_W C (pc, L, stk, h) Q := by
  subst hr
  obtain ⟨o, hF, n, o2, hr, hq⟩ := k
  exact ⟨n + 1, o2, ⟨_, hf, Or.inl ⟨_, ⟨o, b, As, hn, hs, ha, by rw [ha]; exact hF, rfl⟩, hr⟩⟩, hq⟩
theorem ev_M.met {C : ev_C} {nL : Nat} {as : List Value} {h : ev_H} {L : ev_L} {Q : ev_O → Prop} (hl : (ev_lay as).length ≤ nL) (hL : ev_ent nL as = L) (k : ev_W C (0, L, [], h) Q) : ev_M (ev_met C nL) as h Q := by
  subst hL
  obtain ⟨n, o, hr, hq⟩ := k
  exact ⟨o, ⟨hl, n, hr⟩, hq⟩
theorem ev_M.mono {F : ev_F} {as : List Value} {h : ev_H} {Q Q' : ev_O → Prop} (k : ev_M F as h Q) (hQ : ∀ o, Q o → Q' o) : ev_M F as h Q' := by
  obtain ⟨o, hr, hq⟩ := k
  exact ⟨o, hr, hQ o hq⟩
theorem ev_W.mono {C : ev_C} {st : ev_S} {Q Q' : ev_O → Prop} (k : ev_W C st Q) (hQ : ∀ o, Q o → Q' o) : ev_W C st Q' := by
  obtain ⟨n, o, hr, hq⟩ := k
  exact ⟨n, o, hr, hQ o hq⟩
theorem ev_W.getf {C : ev_C} {pc ci k0 nx a : Nat} {L : ev_L} {r : List Value} {h : ev_H} {v : Value} {Q : ev_O → Prop} (hf : ev_find C pc = some (ev_fn (ev_getf ci k0 nx))) (hv : ev_fld h.2.2 a ci k0 = some v) (k : ev_W C (nx, L, v :: r, h) Q) : ev_W C (pc, L, .ref a :: r, h) Q :=
  ev_W.fn hf (by simp only [ev_getf, hv]) k
-- reading a picture that was written
theorem ev_fld_of {f : Nat → Option ev_E} {a ci k : Nat} {fs : List Value} {v : Value} (h : f a = some (.inr (ci, fs))) (hk : fs[k]? = some v) : ev_fld f a ci k = some v := by
  simp only [ev_fld, h, if_pos, hk]
theorem ev_put_same {h : ev_H} {a : Nat} {x : ev_E} : (ev_put h a x).2.2 a = some x := by simp [ev_put, ev_upd]
theorem ev_put_ne {h : ev_H} {a b : Nat} {x : ev_E} (hne : b ≠ a) : (ev_put h a x).2.2 b = h.2.2 b := by simp [ev_put, ev_upd, hne]
theorem ev_new_same {h : ev_H} {k : Nat} {x : ev_E} : (ev_new h k x).2.2 h.1 = some x := by simp [ev_new, ev_upd]
theorem ev_new_ne {h : ev_H} {k b : Nat} {x : ev_E} (hne : b ≠ h.1) : (ev_new h k x).2.2 b = h.2.2 b := by simp [ev_new, ev_upd, hne]
end
section
/-! More steps: comparing references, lengths, arrays of references, casts, Object's constructor, switches, statics, arraycopy. -/
def ev_rq (v : Value) : Option (Option Nat) := match v with
  | .ref a => some (some a)
  | .null => some none
  | _ => none
theorem ev_rq_rf {v : Value} {r : Option Nat} (h : ev_rq v = some r) : v = va_rf r := by
  cases v <;> simp [ev_rq] at h <;> subst h <;> rfl
section MOPS
variable {l : Launch} {cl : List vw_C} {tyL : List FieldType} {G : Nat → (State → Prop) → Prop} {cc : ByteArray} {nL : Nat} {ret : Option FieldType} {nm own : String} {Ts : List Cond} {d wd pc : Nat}
def ev_acmpeq (tg nx : Nat) : ev_Fn := fun L stk h => match stk with
  | y :: x :: r => match ev_rq x, ev_rq y with
    | some rx, some ry => if rx = ry then some (.inl (tg, L, r, h)) else some (.inl (nx, L, r, h))
    | _, _ => none
  | _ => none
theorem ok_acmpeq {off : Int} {tgt : Nat} (hd : decode cc pc = .ok (.if_acmp .eq off, 3)) (ht : (pc : Int) + off = (tgt : Int)) : ev_Good l cl tyL G cc nL ret nm own Ts d wd pc (ev_fn (ev_acmpeq tgt (pc + 3))) := by
  refine ev_pure fun L stk h x hx => ?_
  unfold ev_acmpeq at hx
  split at hx
  · split at hx
    · rename_i rx ry e1 e2
      obtain rfl := ev_rq_rf e1
      obtain rfl := ev_rq_rf e2
      split at hx
      · rename_i hg; cases hx; exact ⟨_, _, rfl, fun p e R s m args below meth c D cA lo O X H locs cells slots ls Q hw ho hl k => lv_acmp_eq X.1.1 X.1.2.1 hd ht (fun _ => k) (fun q => absurd hg q)⟩
      · rename_i hg; cases hx; exact ⟨_, _, rfl, fun p e R s m args below meth c D cA lo O X H locs cells slots ls Q hw ho hl k => lv_acmp_eq X.1.1 X.1.2.1 hd ht (fun q => absurd q hg) (fun _ => k)⟩
    · cases hx
  · cases hx
def ev_acmpne (tg nx : Nat) : ev_Fn := fun L stk h => match stk with
  | y :: x :: r => match ev_rq x, ev_rq y with
    | some rx, some ry => if ¬ rx = ry then some (.inl (tg, L, r, h)) else some (.inl (nx, L, r, h))
    | _, _ => none
  | _ => none
theorem ok_acmpne {off : Int} {tgt : Nat} (hd : decode cc pc = .ok (.if_acmp .ne off, 3)) (ht : (pc : Int) + off = (tgt : Int)) : ev_Good l cl tyL G cc nL ret nm own Ts d wd pc (ev_fn (ev_acmpne tgt (pc + 3))) := by
  refine ev_pure fun L stk h x hx => ?_
  unfold ev_acmpne at hx
  split at hx
  · split at hx
    · rename_i rx ry e1 e2
      obtain rfl := ev_rq_rf e1
      obtain rfl := ev_rq_rf e2
      split at hx
      · rename_i hg; cases hx; exact ⟨_, _, rfl, fun p e R s m args below meth c D cA lo O X H locs cells slots ls Q hw ho hl k => lv_acmp_ne X.1.1 X.1.2.1 hd ht (fun _ => k) (fun q => absurd q hg)⟩
      · rename_i hg; cases hx; exact ⟨_, _, rfl, fun p e R s m args below meth c D cA lo O X H locs cells slots ls Q hw ho hl k => lv_acmp_ne X.1.1 X.1.2.1 hd ht (fun q => absurd q hg) (fun _ => k)⟩
    · cases hx
  · cases hx
-- an array's length; K kinds of arrays are known
def ev_alen (K nx : Nat) : ev_Fn := fun L stk h => match stk with
  | .ref a :: r => match h.2.2 a with
    | some (.inl (t, x)) => if t < K then some (.inl (nx, L, .int (Int32.ofNat x.1) :: r, h)) else none
    | _ => none
  | _ => none
theorem ok_alen {K : Nat} (hK : tyL.length = K) (hd : decode cc pc = .ok (.arraylength, 1)) : ev_Good l cl tyL G cc nL ret nm own Ts d wd pc (ev_fn (ev_alen K (pc + 1))) := by
  refine ev_pure fun L stk h x hx => ?_
  unfold ev_alen at hx
  split at hx
  · rename_i a r
    split at hx
    · rename_i t x0 hf
      split at hx
      · rename_i hg
        cases hx
        obtain ⟨ty, hty⟩ : ∃ ty, tyL[t]? = some ty := ⟨_, List.getElem?_eq_getElem (by omega)⟩
        exact ⟨_, _, rfl, fun p e R s m args below meth c D cA lo O X H locs cells slots ls Q hw ho hl kk => va_alen X.1.1 X.1.2.1 X.2.1 (ev_P1 (hw.2 a _ hf).2) 0 t rfl (ev_ty_get hty) rfl hd kk⟩
      · cases hx
    · cases hx
  · cases hx
-- storing a reference: of a class that may lie there
def ev_aast (t : Nat) (cs : List Nat) (nx : Nat) : ev_Fn := fun L stk h => match stk with
  | .ref v :: .int i :: .ref a :: r => match h.2.2 a, h.2.2 v with
    | some (.inl (t', n, .inr (.inr (.inr (.inr f))))), some (.inr (ci, _)) => if t' = t ∧ ¬ (i < 0 ∨ n ≤ i.toNatClampNeg) ∧ cs.contains ci = true then some (.inl (nx, L, r, ev_put h a (.inl (t, n, .inr (.inr (.inr (.inr (va_up f i.toNatClampNeg (some v)))))))) ) else none
    | _, _ => none
  | .null :: .int i :: .ref a :: r => match h.2.2 a with
    | some (.inl (t', n, .inr (.inr (.inr (.inr f))))) => if t' = t ∧ ¬ (i < 0 ∨ n ≤ i.toNatClampNeg) then some (.inl (nx, L, r, ev_put h a (.inl (t, n, .inr (.inr (.inr (.inr (va_up f i.toNatClampNeg none)))))))) else none
    | _ => none
  | _ => none
theorem ok_aast {t : Nat} {E : String} {cs : List Nat} (ht : tyL[t]? = some (.object E)) (hcs : ∀ ci ∈ cs, ∃ (C : String) (T : u_T) (N : Nat), cl[ci]? = some (C, T, N) ∧ (C = E ∨ ∀ (lo : Nat) (O : State → Prop) (s : State), G lo O → O s → va_Nw (.castable C E) s)) (hd : decode cc pc = .ok (.aastore, 1)) : ev_Good l cl tyL G cc nL ret nm own Ts d wd pc (ev_fn (ev_aast t cs (pc + 1))) := by
  refine ev_wr fun L stk h x hx => ?_
  unfold ev_aast at hx
  split at hx
  · rename_i v i a r
    split at hx
    · rename_i t' n0 f ci fs hf hv
      split at hx
      · rename_i hg
        obtain ⟨hg0, hg1, hg2⟩ := hg
        subst hg0
        cases hx
        obtain ⟨C, T, N, hc, hC⟩ := hcs ci (by simpa using hg2)
        refine ⟨_, _, a, _, _, rfl, hf, fun p e R s m args below meth c D cA lo O X H locs cells slots ls Q hw kk => ?_⟩
        have hlt : i.toNatClampNeg < n0 := Nat.not_le.mp fun q => hg1 (Or.inr q)
        have h0 : ¬ i < 0 := fun q => hg1 (Or.inl q)
        obtain ⟨r0, hr0, cellV, g1, g2, g3, -⟩ := (hw.2 v _ hv).2
        have hcls := (X.2.1.1 ci _ hc).2
        obtain ⟨kA, comp, k1, k2, k3, -⟩ := (X.2.1.2 t' _ (ev_ty_get ht)).2
        obtain ⟨kE, hkE, -⟩ := Vm.findClass_spec k3
        obtain ⟨kC, hkC, -⟩ := hcls.2
        have hasg : s.vm.assignable (D.1 ci) comp = true := by
          rcases hC with rfl | hC
          · have hcomp : comp = D.1 ci := Option.some.inj (k3.symm.trans hcls.1)
            rw [hcomp]
            exact va_assign hcls
          · obtain ⟨c0, t0, f1, f2, f3⟩ := Cond.castable_spec (va_Nw.use (A := args) rfl (hC lo O s X.2.2.2.2.1 X.2.2.1))
            have e1 : c0 = D.1 ci := Option.some.inj (f1.symm.trans hcls.1)
            have e2 : t0 = comp := Option.some.inj (f2.symm.trans k3)
            rw [← e1, ← e2]
            exact f3
        refine W.aast X.1.1 X.1.2.1 (hw.2 a _ hf).2 (fun q h => by cases h) (fun h => by cases h) k1 k2 rfl hkE ⟨h0, by show _ < (arrV _ _ _).slots.size; rw [arrV_size]; exact hlt⟩ g1 (fun q h => by rw [g3] at h; cases h) (by rw [g2]; exact hkC) (by rw [g2]; exact hasg) rfl rfl hd fun H1 e z oq => ?_
        refine kk H1 _ z oq ?_
        show H1[a]? = some (vp_cell _ _)
        rw [e]
        show some ((vp_cell _ _).setSlot _ _) = _
        rw [vp_cell_q, vp_cell_q, arrV_store]
        congr 2
        funext q
        by_cases hq : q = i.toNatClampNeg
        · subst hq
          simp [updV, va_up, va_rf]
        · simp [updV, va_up, hq]
      · cases hx
    · cases hx
  · rename_i i a r
    split at hx
    · rename_i t' n0 f hf
      split at hx
      · rename_i hg
        obtain ⟨hg0, hg1⟩ := hg
        subst hg0
        cases hx
        refine ⟨_, _, a, _, _, rfl, hf, fun p e R s m args below meth c D cA lo O X H locs cells slots ls Q hw kk => ?_⟩
        refine va_WaastN (C := E) X.1.1 X.1.2.1 (hw.2 a _ hf).2 ((X.2.1.2 t' _ (ev_ty_get ht)).1 n0 (fun j => va_rf (f j))) (fun h => by cases h) (by show ¬ (i < 0 ∨ (arrV _ _ _).slots.size ≤ _); rw [arrV_size]; exact hg1) rfl rfl hd fun H1 e z oq => ?_
        refine kk H1 _ z oq ?_
        show H1[a]? = some (vp_cell _ _)
        rw [e]
        show some ((vp_cell _ _).setSlot _ _) = _
        rw [vp_cell_q, vp_cell_q, arrV_store]
        congr 2
        funext q
        by_cases hq : q = i.toNatClampNeg
        · subst hq
          simp [updV, va_up, va_rf]
        · simp [updV, va_up, hq]
      · cases hx
    · cases hx
  · cases hx
-- a new array of ints, of references
def ev_newi (nx : Nat) : ev_Fn := fun L stk h => match stk with
  | .int n :: r => if ¬ n < 0 ∧ n.toNatClampNeg * 4 ≤ 536870912 then some (.inl (nx, L, .ref h.1 :: r, ev_new h n.toNatClampNeg (.inl (0, n.toNatClampNeg, .inl (fun _ => 0))))) else none
  | _ => none
theorem ok_newi (ht : tyL[0]? = some .int) (hw : Cond.arrayClass (newarray.typeOf .int) ∈ Ts) (hd : decode cc pc = .ok (.newarray .int, 2)) : ev_Good l cl tyL G cc nL ret nm own Ts d wd pc (ev_fn (ev_newi (pc + 2))) := by
  refine ev_mk fun L stk h x hx => ?_
  unfold ev_newi at hx
  split at hx
  · rename_i n0 r
    split at hx
    · rename_i hg
      obtain ⟨hg0, hg1⟩ := hg
      cases hx
      refine ⟨_, _, n0.toNatClampNeg, _, rfl, fun p e R s m args below meth c D cA lo O X H locs cells slots ls Q hz r1 r2 kk => ?_⟩
      refine va_newaK X.1.1 X.1.2.1 (X.1.2.2.2.2.1 _ hw) rfl hd rfl hg0 rfl hg1 r1 r2 hz fun H1 cI e1 z1 o1 hAr hNm => ?_
      have hc : cI = cA 0 := Option.some.inj (hNm.symm.trans (X.2.1.2 0 _ (ev_ty_get ht)).2)
      subst hc
      rw [← hz] at e1 z1 o1
      exact kk H1 z1 o1 e1
    · cases hx
  · cases hx
def ev_newq (t nx : Nat) : ev_Fn := fun L stk h => match stk with
  | .int n :: r => if ¬ n < 0 ∧ n.toNatClampNeg * 4 ≤ 536870912 then some (.inl (nx, L, .ref h.1 :: r, ev_new h n.toNatClampNeg (.inl (t, n.toNatClampNeg, .inr (.inr (.inr (.inr (fun _ => none)))))))) else none
  | _ => none
theorem ok_newq {t ix : Nat} {C : String} (ht : tyL[t]? = some (.object C)) (hcl : Cond.classLink own ix C ∈ Ts) (hov : ∀ (lo : Nat) (O : State → Prop) (s : State), G lo O → O s → va_AO C s) (hd : decode cc pc = .ok (.anewarray ix, 3)) : ev_Good l cl tyL G cc nL ret nm own Ts d wd pc (ev_fn (ev_newq t (pc + 3))) := by
  refine ev_mk fun L stk h x hx => ?_
  unfold ev_newq at hx
  split at hx
  · rename_i n0 r
    split at hx
    · rename_i hg
      obtain ⟨hg0, hg1⟩ := hg
      cases hx
      refine ⟨_, _, n0.toNatClampNeg, _, rfl, fun p e R s m args below meth c D cA lo O X H locs cells slots ls Q hz r1 r2 kk => ?_⟩
      refine W.anew X.1.1 X.1.2.1 X.1.2.2.2.1 (X.1.2.2.2.2.1 _ hcl) (va_AO.use (hov lo O s X.2.2.2.2.1 X.2.2.1)) rfl hd rfl hg0 hg1 r1 r2 fun cI kA comp f1 f2 f3 f4 => ?_
      obtain ⟨kA', comp', k1, k2, k3, k4⟩ := (X.2.1.2 t _ (ev_ty_get ht)).2
      have hc : cI = cA t := Option.some.inj (f1.symm.trans k4)
      subst hc
      generalize hH1 : H.push ({ cls := cA t, slots := Array.replicate n0.toNatClampNeg .null, vm := .none } : Cell) = H1
      have z1 : H1.size = H.size + 1 := by rw [← hH1, Array.size_push]
      have e1 : H1[H.size]? = some (arrV (cA t) n0.toNatClampNeg (fun _ => .null)) := by rw [← hH1, Array.getElem?_push_size, ← arrV_new]
      have o1 : ∀ q : Nat, q < H.size → H1[q]? = H[q]? := fun q hq => by rw [← hH1, Array.getElem?_push, if_neg (Nat.ne_of_lt hq)]
      have := kk H1 z1 o1 e1
      rw [← hz] at this
      exact this
    · cases hx
  · cases hx
-- a cast to the object's own class
def ev_castS (ci nx : Nat) : ev_Fn := fun L stk h => match stk with
  | .ref a :: r => match h.2.2 a with
    | some (.inr (c, _)) => if c = ci then some (.inl (nx, L, .ref a :: r, h)) else none
    | _ => none
  | .null :: r => some (.inl (nx, L, .null :: r, h))
  | _ => none
theorem ok_castS {C : String} {T : u_T} {N ci ix : Nat} (hc : cl[ci]? = some (C, T, N)) (hcl : Cond.classLink own ix C ∈ Ts) (hd : decode cc pc = .ok (.checkcast ix, 3)) : ev_Good l cl tyL G cc nL ret nm own Ts d wd pc (ev_fn (ev_castS ci (pc + 3))) := by
  refine ev_pure fun L stk h x hx => ?_
  unfold ev_castS at hx
  split at hx
  · rename_i a r
    split at hx
    · rename_i c0 fs hf
      split at hx
      · rename_i hg
        subst hg
        cases hx
        exact ⟨_, _, rfl, fun p e R s m args below meth c D cA lo O X H locs cells slots ls Q hw ho hl kk => va_castS X.1.1 X.1.2.1 X.1.2.2.2.1 (X.1.2.2.2.2.1 _ hcl) (X.2.1.1 c0 _ hc).2 (va_recv (q0 := 0) X.2.1 (ev_P1 (hw.2 a _ hf).2) hc rfl) hd kk⟩
      · cases hx
    · cases hx
  · cases hx; exact ⟨_, _, rfl, fun p e R s m args below meth c D cA lo O X H locs cells slots ls Q hw ho hl kk => lv_castN X.1.1 X.1.2.1 hd kk⟩
  · cases hx
-- Object's constructor
def ev_obji (nx : Nat) : ev_Fn := fun L stk h => match stk with
  | .ref _ :: r => if (r.map fun v => v.category).sum ≤ 8 then some (.inl (nx, L, r, h)) else none
  | _ => none
theorem ok_obji {ix : Nat} (hd0 : 1 ≤ d) (hw0 : 20 ≤ wd) (w1 : Cond.methodLink own ix objectInit ∈ Ts) (w2 : Cond.instanceMethod objectInit ∈ Ts) (w3 : Cond.code objectInit ⟨#[0xb1]⟩ 1 none ∈ Ts) (hd : decode cc pc = .ok (.invokespecial ix, 3)) : ev_Good l cl tyL G cc nL ret nm own Ts d wd pc (ev_fn (ev_obji (pc + 3))) := by
  refine ev_pure fun L stk h x hx => ?_
  unfold ev_obji at hx
  split at hx
  · rename_i a r
    split at hx
    · rename_i hg
      cases hx
      refine ⟨_, _, rfl, fun p e R s m args below meth c D cA lo O X H locs cells slots ls Q hw ho hl kk => ?_⟩
      have hts := X.1.2.2.2.2.1
      refine W.objInit X.1.1 X.1.2.1 X.1.2.2.2.1 (hts _ w1) (hts _ w2) (hts _ w3) rfl (by rw [X.1.2.2.1]; exact hl.1) rfl hd (Nat.le_trans hd0 X.2.2.2.2.2.1) (Nat.le_trans (show 2 * 0 + (r.map fun v => v.category).sum + 12 ≤ wd by omega) X.2.2.2.2.2.2) ?_
      exact W.eq (g2 := F0 m (pc + 3) ls r) rfl kk
    · cases hx
  · cases hx
-- switches
def ev_tsw (pc : Nat) (dflt lo hi : Int) (offs : Array Int) : ev_Fn := fun L stk h => match stk with
  | .int x :: r => if x.toInt < lo ∨ hi < x.toInt then (if 0 ≤ (pc : Int) + dflt then some (.inl (((pc : Int) + dflt).toNat, L, r, h)) else none) else match offs[(x.toInt - lo).toNat]? with
    | some off => if 0 ≤ (pc : Int) + off then some (.inl (((pc : Int) + off).toNat, L, r, h)) else none
    | none => none
  | _ => none
theorem ok_tsw {dflt lo hi : Int} {offs : Array Int} {len : Nat} (hd : decode cc pc = .ok (.tableswitch dflt lo hi offs, len)) : ev_Good l cl tyL G cc nL ret nm own Ts d wd pc (ev_fn (ev_tsw pc dflt lo hi offs)) := by
  refine ev_pure fun L stk h x hx => ?_
  unfold ev_tsw at hx
  split at hx
  · split at hx
    · rename_i hg
      split at hx
      · rename_i h0; cases hx; exact ⟨_, _, rfl, fun p e R s m args below meth c D cA lo O X H locs cells slots ls Q hw ho hl kk => lv_tableOut X.1.1 X.1.2.1 hd hg (Int.toNat_of_nonneg h0).symm kk⟩
      · cases hx
    · rename_i hg
      split at hx
      · rename_i off ho2
        split at hx
        · rename_i h0; cases hx; exact ⟨_, _, rfl, fun p e R s m args below meth c D cA lo O X H locs cells slots ls Q hw ho hl kk => lv_tableIn X.1.1 X.1.2.1 hd (fun q => hg (Or.inl q)) (fun q => hg (Or.inr q)) ho2 (Int.toNat_of_nonneg h0).symm kk⟩
        · cases hx
      · cases hx
  · cases hx
def ev_lsw (pc : Nat) (dflt : Int) (ps : Array (Int × Int)) : ev_Fn := fun L stk h => match stk with
  | .int x :: r => if 0 ≤ (pc : Int) + Op.lookupswitch.offset ps.toList dflt x.toInt then some (.inl (((pc : Int) + Op.lookupswitch.offset ps.toList dflt x.toInt).toNat, L, r, h)) else none
  | _ => none
theorem ok_lsw {dflt : Int} {ps : Array (Int × Int)} {len : Nat} (hp : (ps.toList.zip (ps.toList.drop 1)).all (fun (a, next) => a.1 < next.1) = true) (hd : decode cc pc = .ok (.lookupswitch dflt ps, len)) : ev_Good l cl tyL G cc nL ret nm own Ts d wd pc (ev_fn (ev_lsw pc dflt ps)) := by
  refine ev_pure fun L stk h x hx => ?_
  unfold ev_lsw at hx
  split at hx
  · split at hx
    · rename_i h0; cases hx; exact ⟨_, _, rfl, fun p e R s m args below meth c D cA lo O X H locs cells slots ls Q hw ho hl kk => lv_lookup X.1.1 X.1.2.1 hd hp rfl (Int.toNat_of_nonneg h0).symm kk⟩
    · cases hx
  · cases hx
end MOPS
end
section
/-! Steps that look below (the script, statics, class objects), other arrays, arraycopy. -/
section OOPS
variable {l : Launch} {cl : List vw_C} {tyL : List FieldType} {G : Nat → (State → Prop) → Prop} {cc : ByteArray} {nL : Nat} {ret : Option FieldType} {nm own : String} {Ts : List Cond} {d wd pc : Nat}
def ev_gets (v : Value) (nx : Nat) : ev_Fn := fun L stk h => some (.inl (nx, L, v :: stk, h))
theorem ok_gets {C n d' : String} {v : Value} {ix : Nat} (hZ : ∀ (lo : Nat) (O : State → Prop) (s : State), G lo O → O s → va_Z C n d' v (fun q => lo ≤ q) s s.heap) (hlink : Cond.fieldLink own ix C n d' ∈ Ts) (hd : decode cc pc = .ok (.getstatic ix, 3)) : ev_Good l cl tyL G cc nL ret nm own Ts d wd pc (ev_fn (ev_gets v (pc + 3))) := by
  refine ev_pure fun L stk h x hx => ?_
  unfold ev_gets at hx
  cases hx
  refine ⟨_, _, rfl, fun p e R s m args below meth c D cA lo O X H locs cells slots ls Q hw ho hl k => ?_⟩
  obtain ⟨cf, kf, fi, f, a, cell, h1, h2, h3, h4, h5, h6, h7, h8⟩ := hZ lo O s X.2.2.2.2.1 X.2.2.1
  exact W.gets X.1.1 X.1.2.1 X.1.2.2.2.1 (X.1.2.2.2.2.1 _ hlink) h1 h2 h3 h4 (by rw [ho a (Nat.not_le.mp h8)]; exact h5) (fun e => by rw [e] at h6; cases h6) h7 rfl hd k
-- length of an array that may be the empty one below
def ev_alenE (e0 K nx : Nat) : ev_Fn := fun L stk h => match stk with
  | .ref a :: r => if a = e0 then some (.inl (nx, L, .int 0 :: r, h)) else match h.2.2 a with
    | some (.inl (t, x)) => if t < K then some (.inl (nx, L, .int (Int32.ofNat x.1) :: r, h)) else none
    | _ => none
  | _ => none
theorem ok_alenE {e0 K : Nat} {ty : FieldType} {fz : Nat → Value} (hT : ∀ (lo : Nat) (O : State → Prop) (s : State), G lo O → O s → va_T ty e0 0 fz (fun q => lo ≤ q) s s.heap) (hK : tyL.length = K) (hd : decode cc pc = .ok (.arraylength, 1)) : ev_Good l cl tyL G cc nL ret nm own Ts d wd pc (ev_fn (ev_alenE e0 K (pc + 1))) := by
  refine ev_pure fun L stk h x hx => ?_
  unfold ev_alenE at hx
  split at hx
  · rename_i a r
    split at hx
    · rename_i he
      subst he
      cases hx
      refine ⟨_, _, rfl, fun p e R s m args below meth c D cA lo O X H locs cells slots ls Q hw ho hl kk => ?_⟩
      obtain ⟨cell, h1, h2, h3, h4, h5, h6, h7⟩ := hT lo O s X.2.2.2.2.1 X.2.2.1
      exact W.alen (n := 0) X.1.1 X.1.2.1 (by rw [ho a (Nat.not_le.mp h7)]; exact h1) h2 h5 rfl rfl hd kk
    · split at hx
      · rename_i t x0 hf
        split at hx
        · rename_i hg
          cases hx
          obtain ⟨ty', hty⟩ : ∃ ty', tyL[t]? = some ty' := ⟨_, List.getElem?_eq_getElem (by omega)⟩
          exact ⟨_, _, rfl, fun p e R s m args below meth c D cA lo O X H locs cells slots ls Q hw ho hl kk => va_alen X.1.1 X.1.2.1 X.2.1 (ev_P1 (hw.2 a _ hf).2) 0 t rfl (ev_ty_get hty) rfl hd kk⟩
        · cases hx
      · cases hx
  · cases hx
-- the script
def ev_sld (b n : Nat) (xs : Nat → Int32) (nx : Nat) : ev_Fn := fun L stk h => match stk with
  | .int i :: .ref a :: r => if a = b ∧ ¬ (i < 0 ∨ n ≤ i.toNatClampNeg) then some (.inl (nx, L, .int (xs i.toNatClampNeg) :: r, h)) else none
  | _ => none
theorem ok_sld {b n : Nat} {xs : Nat → Int32} (hX : ∀ (lo : Nat) (O : State → Prop) (s : State), G lo O → O s → va_X b n xs s s.heap ∧ b < lo) (hd : decode cc pc = .ok (.iaload, 1)) : ev_Good l cl tyL G cc nL ret nm own Ts d wd pc (ev_fn (ev_sld b n xs (pc + 1))) := by
  refine ev_pure fun L stk h x hx => ?_
  unfold ev_sld at hx
  split at hx
  · rename_i i a r
    split at hx
    · rename_i hg
      obtain ⟨hg0, hg1⟩ := hg
      subst hg0
      cases hx
      refine ⟨_, _, rfl, fun p e R s m args below meth c D cA lo O X H locs cells slots ls Q hw ho hl kk => ?_⟩
      obtain ⟨⟨scr, h1, h2, h3, h4, h5⟩, hlt⟩ := hX lo O s X.2.2.2.2.1 X.2.2.1
      have hi : i.toNatClampNeg < n := Nat.not_le.mp fun q => hg1 (Or.inr q)
      exact W.iald (v := .int (xs i.toNatClampNeg)) X.1.1 X.1.2.1 (by rw [ho a hlt]; exact h1) h2 h3 (by rw [h4]; exact hg1) (h5 _ hi) rfl rfl hd kk
    · cases hx
  · cases hx
def ev_slen (b n nx : Nat) : ev_Fn := fun L stk h => match stk with
  | .ref a :: r => if a = b then some (.inl (nx, L, .int (Int32.ofNat n) :: r, h)) else none
  | _ => none
theorem ok_slen {b n : Nat} {xs : Nat → Int32} (hX : ∀ (lo : Nat) (O : State → Prop) (s : State), G lo O → O s → va_X b n xs s s.heap ∧ b < lo) (hd : decode cc pc = .ok (.arraylength, 1)) : ev_Good l cl tyL G cc nL ret nm own Ts d wd pc (ev_fn (ev_slen b n (pc + 1))) := by
  refine ev_pure fun L stk h x hx => ?_
  unfold ev_slen at hx
  split at hx
  · rename_i a r
    split at hx
    · rename_i hg0
      subst hg0
      cases hx
      refine ⟨_, _, rfl, fun p e R s m args below meth c D cA lo O X H locs cells slots ls Q hw ho hl kk => ?_⟩
      obtain ⟨⟨scr, h1, h2, h3, h4, h5⟩, hlt⟩ := hX lo O s X.2.2.2.2.1 X.2.2.1
      exact W.alen (n := Int32.ofNat n) X.1.1 X.1.2.1 (by rw [ho a hlt]; exact h1) h2 (by rw [h4]) rfl rfl hd kk
    · cases hx
  · cases hx
-- class objects
theorem ok_ldcw {ix : Nat} {v : Int32} (hw : Cond.constant own ix v ∈ Ts) (hd : decode cc pc = .ok (.ldc_w ix, 3)) : ev_Good l cl tyL G cc nL ret nm own Ts d wd pc (ev_fn (ev_ci v (pc + 3))) := by
  refine ev_pure fun L stk h x hx => ?_
  unfold ev_ci at hx
  cases hx; exact ⟨_, _, rfl, fun p e R s m args below meth c D cA lo O X H locs cells slots ls Q hw' ho hl k => lv_ldcw X.1.1 X.1.2.1 X.1.2.2.2.1 (X.1.2.2.2.2.1 _ hw) hd k⟩
theorem ok_ldcM {C : String} {mi ix : Nat} (hM : ∀ (lo : Nat) (O : State → Prop) (s : State), G lo O → O s → va_Mi C mi s) (hcl : Cond.classLink own ix C ∈ Ts) (hd : decode cc pc = .ok (.ldc ix, 2)) : ev_Good l cl tyL G cc nL ret nm own Ts d wd pc (ev_fn (ev_gets (.ref mi) (pc + 2))) := by
  refine ev_pure fun L stk h x hx => ?_
  unfold ev_gets at hx
  cases hx; exact ⟨_, _, rfl, fun p e R s m args below meth c D cA lo O X H locs cells slots ls Q hw' ho hl k => va_ldcM X.1.1 X.1.2.1 X.1.2.2.2.1 (X.1.2.2.2.2.1 _ hcl) (hM lo O s X.2.2.2.2.1 X.2.2.1) hd k⟩
def ev_getC (t mi nx : Nat) : ev_Fn := fun L stk h => match stk with
  | .ref a :: r => match h.2.2 a with
    | some (.inl (t', _)) => if t' = t ∧ (r.map fun v => v.category).sum ≤ 8 then some (.inl (nx, L, .ref mi :: r, h)) else none
    | _ => none
  | _ => none
theorem ok_getC {t mi ix : Nat} {E C : String} (hC : "[" ++ (FieldType.object E).toString = C) (ht : tyL[t]? = some (.object E)) (hd0 : 1 ≤ d) (hw0 : 22 ≤ wd) (hM : ∀ (lo : Nat) (O : State → Prop) (s : State), G lo O → O s → va_Mi C mi s ∧ va_Nw (.declares ⟨"java/lang/Object", "getClass", "()Ljava/lang/Class;"⟩) s) (w1 : Cond.methodLink own ix ⟨"java/lang/Object", "getClass", "()Ljava/lang/Class;"⟩ ∈ Ts)
    (w3 : Cond.selects C ⟨"java/lang/Object", "getClass", "()Ljava/lang/Class;"⟩ ⟨"java/lang/Object", "getClass", "()Ljava/lang/Class;"⟩ ∈ Ts) (w4 : Cond.instanceMethod ⟨"java/lang/Object", "getClass", "()Ljava/lang/Class;"⟩ ∈ Ts) (w5 : Cond.native ⟨"java/lang/Object", "getClass", "()Ljava/lang/Class;"⟩ ∈ Ts) (hd : decode cc pc = .ok (.invokevirtual ix, 3)) : ev_Good l cl tyL G cc nL ret nm own Ts d wd pc (ev_fn (ev_getC t mi (pc + 3))) := by
  refine ev_pure fun L stk h x hx => ?_
  unfold ev_getC at hx
  split at hx
  · rename_i a r
    split at hx
    · rename_i t' x0 hf
      split at hx
      · rename_i hg
        obtain ⟨hg0, hg1⟩ := hg
        subst hg0
        cases hx
        refine ⟨_, _, rfl, fun p e R s m args below meth c D cA lo O X H locs cells slots ls Q hw ho hl kk => ?_⟩
        have hts := X.1.2.2.2.2.1
        obtain ⟨hm, hdc⟩ := hM lo O s X.2.2.2.2.1 X.2.2.1
        have hcl : s.vm.findClass C = some (cA t') := va_nmO (X.2.1.2 t' _ (ev_ty_get ht)).2 hC
        refine va_getC X.1.1 X.1.2.1 (by rw [X.1.2.2.1, hl.1]) X.1.2.2.2.1 (hts _ w1) (va_Dc.use hdc) (hts _ w3) (hts _ w4) (hts _ w5) hm ⟨vp_cell (cA t') x0, (hw.2 a _ hf).2, ?_, ?_⟩ (Nat.le_trans hd0 X.2.2.2.2.2.1) (Nat.le_trans (by omega) X.2.2.2.2.2.2) hd kk
        · obtain ⟨n0, y⟩ := x0
          rcases y with y | y | y | y | y <;> rfl
        · obtain ⟨n0, y⟩ := x0
          rcases y with y | y | y | y | y <;> exact hcl
      · cases hx
    · cases hx
  · cases hx
def ev_castA (t nx : Nat) : ev_Fn := fun L stk h => match stk with
  | .ref a :: r => match h.2.2 a with
    | some (.inl (t', _)) => if t' = t then some (.inl (nx, L, .ref a :: r, h)) else none
    | _ => none
  | _ => none
theorem ok_castA {t ix : Nat} {E C : String} (hC : "[" ++ (FieldType.object E).toString = C) (ht : tyL[t]? = some (.object E)) (hcl : Cond.classLink own ix C ∈ Ts) (hd : decode cc pc = .ok (.checkcast ix, 3)) : ev_Good l cl tyL G cc nL ret nm own Ts d wd pc (ev_fn (ev_castA t (pc + 3))) := by
  refine ev_pure fun L stk h x hx => ?_
  unfold ev_castA at hx
  split at hx
  · rename_i a r
    split at hx
    · rename_i t' x0 hf
      split at hx
      · rename_i hg
        subst hg
        cases hx
        exact ⟨_, _, rfl, fun p e R s m args below meth c D cA lo O X H locs cells slots ls Q hw ho hl kk => va_castA X.1.1 X.1.2.1 X.1.2.2.2.1 (X.1.2.2.2.2.1 _ hcl) (ev_P1 (hw.2 a _ hf).2) 0 rfl (va_nmO (X.2.1.2 t' _ (ev_ty_get ht)).2 hC) hd kk⟩
      · cases hx
    · cases hx
  · cases hx
-- arrays of longs (kind 1) and of booleans (kind 2)
def ev_lald (nx : Nat) : ev_Fn := fun L stk h => match stk with
  | .int i :: .ref a :: r => match h.2.2 a with
    | some (.inl (t, n, .inr (.inl f))) => if t = 1 ∧ ¬ (i < 0 ∨ n ≤ i.toNatClampNeg) then some (.inl (nx, L, .long (f i.toNatClampNeg) :: r, h)) else none
    | _ => none
  | _ => none
theorem ok_lald (ht : tyL[1]? = some .long) (hd : decode cc pc = .ok (.laload, 1)) : ev_Good l cl tyL G cc nL ret nm own Ts d wd pc (ev_fn (ev_lald (pc + 1))) := by
  refine ev_pure fun L stk h x hx => ?_
  unfold ev_lald at hx
  split at hx
  · rename_i i a r
    split at hx
    · rename_i t n0 f hf
      split at hx
      · rename_i hg
        obtain ⟨hg0, hg1⟩ := hg
        subst hg0
        cases hx
        exact ⟨_, _, rfl, fun p e R s m args below meth c D cA lo O X H locs cells slots ls Q hw ho hl kk => va_lald X.1.1 X.1.2.1 X.2.1 (ev_P1 (hw.2 a _ hf).2) 0 1 rfl (ev_ty_get ht) hg1 hd kk⟩
      · cases hx
    · cases hx
  · cases hx
def ev_zald (nx : Nat) : ev_Fn := fun L stk h => match stk with
  | .int i :: .ref a :: r => match h.2.2 a with
    | some (.inl (t, n, .inl f)) => if t = 2 ∧ ¬ (i < 0 ∨ n ≤ i.toNatClampNeg) then some (.inl (nx, L, .int (f i.toNatClampNeg) :: r, h)) else none
    | _ => none
  | _ => none
theorem ok_zald (ht : tyL[2]? = some .boolean) (hd : decode cc pc = .ok (.baload, 1)) : ev_Good l cl tyL G cc nL ret nm own Ts d wd pc (ev_fn (ev_zald (pc + 1))) := by
  refine ev_pure fun L stk h x hx => ?_
  unfold ev_zald at hx
  split at hx
  · rename_i i a r
    split at hx
    · rename_i t n0 f hf
      split at hx
      · rename_i hg
        obtain ⟨hg0, hg1⟩ := hg
        subst hg0
        cases hx
        exact ⟨_, _, rfl, fun p e R s m args below meth c D cA lo O X H locs cells slots ls Q hw ho hl kk => va_zald X.1.1 X.1.2.1 X.2.1 (ev_P1 (hw.2 a _ hf).2) 0 2 rfl (ev_ty_get ht) hg1 hd kk⟩
      · cases hx
    · cases hx
  · cases hx
def ev_last (nx : Nat) : ev_Fn := fun L stk h => match stk with
  | .long x :: .int i :: .ref a :: r => match h.2.2 a with
    | some (.inl (t, n, .inr (.inl f))) => if t = 1 ∧ ¬ (i < 0 ∨ n ≤ i.toNatClampNeg) then some (.inl (nx, L, r, ev_put h a (.inl (1, n, .inr (.inl (va_up f i.toNatClampNeg x)))))) else none
    | _ => none
  | _ => none
theorem ok_last (ht : tyL[1]? = some .long) (hd : decode cc pc = .ok (.lastore, 1)) : ev_Good l cl tyL G cc nL ret nm own Ts d wd pc (ev_fn (ev_last (pc + 1))) := by
  refine ev_wr fun L stk h x hx => ?_
  unfold ev_last at hx
  split at hx
  · rename_i x0 i a r
    split at hx
    · rename_i t n0 f hf
      split at hx
      · rename_i hg
        obtain ⟨hg0, hg1⟩ := hg
        subst hg0
        cases hx
        refine ⟨_, _, a, _, _, rfl, hf, fun p e R s m args below meth c D cA lo O X H locs cells slots ls Q hw kk => ?_⟩
        refine W.last X.1.1 X.1.2.1 (hw.2 a _ hf).2 ((X.2.1.2 1 _ (ev_ty_get ht)).1 n0 (fun j => .long (f j))) (fun h => by cases h) (by show ¬ (i < 0 ∨ (arrV _ _ _).slots.size ≤ _); rw [arrV_size]; exact hg1) rfl rfl hd fun H1 e z oq => ?_
        refine kk H1 _ z oq ?_
        show H1[a]? = some (vp_cell _ _)
        rw [e]
        show some ((vp_cell _ _).setSlot _ _) = _
        rw [vp_cell_l, vp_cell_l, arrV_store]
        congr 2
        funext q
        by_cases hq : q = i.toNatClampNeg
        · subst hq
          simp [updV, va_up]
        · simp [updV, va_up, hq]
      · cases hx
    · cases hx
  · cases hx
def ev_zast (nx : Nat) : ev_Fn := fun L stk h => match stk with
  | .int x :: .int i :: .ref a :: r => match h.2.2 a with
    | some (.inl (t, n, .inl f)) => if t = 2 ∧ ¬ (i < 0 ∨ n ≤ i.toNatClampNeg) ∧ vp_nar .boolean x = x then some (.inl (nx, L, r, ev_put h a (.inl (2, n, .inl (va_up f i.toNatClampNeg x))))) else none
    | _ => none
  | _ => none
theorem ok_zast (ht : tyL[2]? = some .boolean) (hd : decode cc pc = .ok (.bastore, 1)) : ev_Good l cl tyL G cc nL ret nm own Ts d wd pc (ev_fn (ev_zast (pc + 1))) := by
  refine ev_wr fun L stk h x hx => ?_
  unfold ev_zast at hx
  split at hx
  · rename_i x0 i a r
    split at hx
    · rename_i t n0 f hf
      split at hx
      · rename_i hg
        obtain ⟨hg0, hg1, hg2⟩ := hg
        subst hg0
        cases hx
        refine ⟨_, _, a, _, _, rfl, hf, fun p e R s m args below meth c D cA lo O X H locs cells slots ls Q hw kk => ?_⟩
        refine W.zast X.1.1 X.1.2.1 (hw.2 a _ hf).2 ((X.2.1.2 2 _ (ev_ty_get ht)).1 n0 (fun j => .int (f j))) (fun h => by cases h) (by show ¬ (i < 0 ∨ (arrV _ _ _).slots.size ≤ _); rw [arrV_size]; exact hg1) rfl rfl hd fun H1 e z oq => ?_
        refine kk H1 _ z oq ?_
        show H1[a]? = some (vp_cell _ _)
        rw [e]
        show some ((vp_cell _ _).setSlot _ _) = _
        rw [vp_cell_i, vp_cell_i, arrV_store]
        congr 2
        funext q
        by_cases hq : q = i.toNatClampNeg
        · subst hq
          have e2 : narrow .boolean (.int x0) = .int x0 := by
            have e3 : narrow .boolean (.int x0) = .int (vp_nar .boolean x0) := rfl
            rw [e3, hg2]
          simp [updV, va_up, e2]
        · simp [updV, va_up, hq]
      · cases hx
    · cases hx
  · cases hx
def ev_newl (nx : Nat) : ev_Fn := fun L stk h => match stk with
  | .int n :: r => if ¬ n < 0 ∧ n.toNatClampNeg * 8 ≤ 536870912 then some (.inl (nx, L, .ref h.1 :: r, ev_new h n.toNatClampNeg (.inl (1, n.toNatClampNeg, .inr (.inl (fun _ => 0)))))) else none
  | _ => none
theorem ok_newl (ht : tyL[1]? = some .long) (hw : Cond.arrayClass (newarray.typeOf .long) ∈ Ts) (hd : decode cc pc = .ok (.newarray .long, 2)) : ev_Good l cl tyL G cc nL ret nm own Ts d wd pc (ev_fn (ev_newl (pc + 2))) := by
  refine ev_mk fun L stk h x hx => ?_
  unfold ev_newl at hx
  split at hx
  · rename_i n0 r
    split at hx
    · rename_i hg
      obtain ⟨hg0, hg1⟩ := hg
      cases hx
      refine ⟨_, _, n0.toNatClampNeg, _, rfl, fun p e R s m args below meth c D cA lo O X H locs cells slots ls Q hz r1 r2 kk => ?_⟩
      refine va_newaK X.1.1 X.1.2.1 (X.1.2.2.2.2.1 _ hw) rfl hd rfl hg0 rfl hg1 r1 r2 hz fun H1 cI e1 z1 o1 hAr hNm => ?_
      have hc : cI = cA 1 := Option.some.inj (hNm.symm.trans (X.2.1.2 1 _ (ev_ty_get ht)).2)
      subst hc
      rw [← hz] at e1 z1 o1
      exact kk H1 z1 o1 e1
    · cases hx
  · cases hx
def ev_newz (nx : Nat) : ev_Fn := fun L stk h => match stk with
  | .int n :: r => if ¬ n < 0 ∧ n.toNatClampNeg * 1 ≤ 536870912 then some (.inl (nx, L, .ref h.1 :: r, ev_new h n.toNatClampNeg (.inl (2, n.toNatClampNeg, .inl (fun _ => 0))))) else none
  | _ => none
theorem ok_newz (ht : tyL[2]? = some .boolean) (hw : Cond.arrayClass (newarray.typeOf .boolean) ∈ Ts) (hd : decode cc pc = .ok (.newarray .boolean, 2)) : ev_Good l cl tyL G cc nL ret nm own Ts d wd pc (ev_fn (ev_newz (pc + 2))) := by
  refine ev_mk fun L stk h x hx => ?_
  unfold ev_newz at hx
  split at hx
  · rename_i n0 r
    split at hx
    · rename_i hg
      obtain ⟨hg0, hg1⟩ := hg
      cases hx
      refine ⟨_, _, n0.toNatClampNeg, _, rfl, fun p e R s m args below meth c D cA lo O X H locs cells slots ls Q hz r1 r2 kk => ?_⟩
      refine va_newaK X.1.1 X.1.2.1 (X.1.2.2.2.2.1 _ hw) rfl hd rfl hg0 rfl hg1 r1 r2 hz fun H1 cI e1 z1 o1 hAr hNm => ?_
      have hc : cI = cA 2 := Option.some.inj (hNm.symm.trans (X.2.1.2 2 _ (ev_ty_get ht)).2)
      subst hc
      rw [← hz] at e1 z1 o1
      exact kk H1 z1 o1 e1
    · cases hx
  · cases hx
end OOPS
end
section
/-! System.arraycopy over arrays of references. -/
def ev_copyq (t : Nat) (cs : List Nat) (nx : Nat) : ev_Op := fun L stk h x => ∃ (n dp sp : Int32) (a1 a0 : Nat) (r : List Value) (n0 n1 : Nat) (f g : Nat → Option Nat), stk = .int n :: .int dp :: .ref a1 :: .int sp :: .ref a0 :: r ∧ h.2.2 a0 = some (.inl (t, n0, .inr (.inr (.inr (.inr f))))) ∧ h.2.2 a1 = some (.inl (t, n1, .inr (.inr (.inr (.inr g))))) ∧
  ¬ sp < 0 ∧ ¬ dp < 0 ∧ ¬ n < 0 ∧ sp.toNatClampNeg + n.toNatClampNeg ≤ n0 ∧ dp.toNatClampNeg + n.toNatClampNeg ≤ n1 ∧ (∀ i : Nat, i < n.toNatClampNeg → ∀ y : Nat, f (sp.toNatClampNeg + i) = some y → ∃ (ci : Nat) (fs : List Value), h.2.2 y = some (.inr (ci, fs)) ∧ ci ∈ cs) ∧ (r.map fun v => v.category).sum ≤ 8 ∧
  x = .inl (nx, L, r, ev_put h a1 (.inl (t, n1, .inr (.inr (.inr (.inr (va_cpy f g sp.toNatClampNeg dp.toNatClampNeg n.toNatClampNeg)))))))
section CPY
variable {l : Launch} {cl : List vw_C} {tyL : List FieldType} {G : Nat → (State → Prop) → Prop} {cc : ByteArray} {nL : Nat} {ret : Option FieldType} {nm own : String} {Ts : List Cond} {d wd pc : Nat}
theorem ok_copyq {t ix : Nat} {E : String} {cs : List Nat} (ht : tyL[t]? = some (.object E)) (hcs : ∀ ci ∈ cs, ∃ (C : String) (T : u_T) (N : Nat), cl[ci]? = some (C, T, N) ∧ (C = E ∨ ∀ (lo : Nat) (O : State → Prop) (s : State), G lo O → O s → va_Nw (.castable C E) s)) (hd0 : 1 ≤ d) (hw0 : 8 + (nativeFrameWords "java/lang/System" "arraycopy" 5 + 11) ≤ wd)
    (w1 : Cond.methodLink own ix arraycopyName ∈ Ts) (w2 : Cond.native arraycopyName ∈ Ts) (w3 : Cond.static arraycopyName ∈ Ts) (w4 : Cond.initialized "java/lang/System" ∈ Ts) (hd : decode cc pc = .ok (.invokestatic ix, 3)) : ev_Good l cl tyL G cc nL ret nm own Ts d wd pc (ev_copyq t cs (pc + 3)) := by
  refine ⟨fun L stk h => ⟨fun st' e1 => ?_, fun o e1 => ?_⟩, fun p e R s m args below meth c D cA lo O b0 oE X => ⟨fun L stk h g1 g2 Q st' e1 r1 r2 k => ?_, fun L stk h g1 g2 e1 => ?_⟩⟩
  · obtain ⟨n, dp, sp, a1, a0, r, n0, n1, f, g, -, -, -, -, -, -, -, -, -, -, hx⟩ := e1
    cases hx
    exact ⟨Nat.le_refl _, Nat.le_refl _⟩
  · obtain ⟨n, dp, sp, a1, a0, r, n0, n1, f, g, -, -, -, -, -, -, -, -, -, -, hx⟩ := e1
    cases hx
  · obtain ⟨n, dp, sp, a, a0, r, n0, n1, f, g, hstk, hf0, hf1, h1, h2, h3, h4, h5, hel, hsum, hx⟩ := e1
    cases hx
    subst hstk
    intro H locs ls b1 b2 b3 b4 b5 b6
    obtain ⟨hloa, hc1⟩ := b1.2 a _ hf1
    have hc1 : H[a]? = some (vp_cell (cA t) (n1, .inr (.inr (.inr (.inr g))))) := hc1
    have hc0 : H[a0]? = some (vp_cell (cA t) (n0, .inr (.inr (.inr (.inr f))))) := (b1.2 a0 _ hf0).2
    have hts := X.1.2.2.2.2.1
    have hK := X.2.1
    have nn : ∀ z : Int32, ¬ z < 0 → z.toInt = (z.toNatClampNeg : Int) := by
      intro z hz
      have hz0 : (0 : Int) ≤ z.toInt := by
        have := Int32.not_lt.mp hz
        simpa using Int32.le_iff_toInt_le.mp this
      show z.toInt = ((z.toInt.toNat : Nat) : Int)
      omega
    intro T hT XT
    obtain ⟨-, k0, hk0, cm0, hkk0⟩ := (hK.2 t _ (ev_ty_get ht)).1 n0 (fun j => va_rf (f j))
    obtain ⟨-, k1, hk1, cm1, hkk1⟩ := (hK.2 t _ (ev_ty_get ht)).1 n1 (fun j => va_rf (g j))
    obtain ⟨vm', X', step⟩ := XT.arraycopy X.1.1 X.1.2.2.2.1 (hts _ w1) (hts _ w2) (hts _ w3) (hts _ w4) (src := a0) (dst := a) (cs := vp_cell (cA t) (n0, .inr (.inr (.inr (.inr f))))) (cd := vp_cell (cA t) (n1, .inr (.inr (.inr (.inr g))))) (srcPos := sp) (destPos := dp) (n := n) (by rw [hT]; exact hc0) (by rw [hT]; exact hc1)
      (fun _ h => by cases h) (fun _ h => by cases h) (fun h => by cases h) (fun h => by cases h) hk0 hk1 hkk0 hkk1 rfl h1 h2 h3
      (by rw [nn sp h1, nn n h3]; show ¬ _ > ((arrV (cA t) n0 (fun j => va_rf (f j))).slots.size : Int); rw [arrV_size]; omega)
      (by rw [nn dp h2, nn n h3]; show ¬ _ > ((arrV (cA t) n1 (fun j => va_rf (g j))).slots.size : Int); rw [arrV_size]; omega)
      (fun vm₁ hal i hi => by
        have e : (vp_cell (cA t) (n0, .inr (.inr (.inr (.inr f))))).slots.getD (sp.toNatClampNeg + i) .null = va_rf (f (sp.toNatClampNeg + i)) := by
          show (arrV (cA t) n0 (fun j => va_rf (f j))).slots.getD _ _ = _
          rw [Array.getD_eq_getD_getElem?, arrV_read _ _ (by omega)]
          rfl
        rw [e]
        cases hy : f (sp.toNatClampNeg + i) with
        | none => exact ⟨rfl, trivial⟩
        | some y =>
          obtain ⟨ci, fs, hfy, hci⟩ := hel i hi y hy
          obtain ⟨C, TT, N, hcC, hCE⟩ := hcs ci hci
          obtain ⟨r0, hr0, cellV, q1, q2, q3, -⟩ := (b1.2 y _ hfy).2
          have hcls := (hK.1 ci _ hcC).2
          obtain ⟨kC, hkC, -⟩ := hcls.2
          obtain ⟨kA, comp, r1', r2', r3, -⟩ := (hK.2 t _ (ev_ty_get ht)).2
          cases hk1.symm.trans r1'
          cases hkk1.symm.trans r2'
          obtain ⟨kE, hkE, -⟩ := Vm.findClass_spec r3
          obtain ⟨kC', hkC', -⟩ := hal.2.2 _ _ hkC
          obtain ⟨kE', hkE', -⟩ := hal.2.2 _ _ hkE
          have hasg : s.vm.assignable (D.1 ci) cm1 = true := by
            rcases hCE with rfl | hC
            · have hcomp : cm1 = D.1 ci := Option.some.inj (r3.symm.trans hcls.1)
              rw [hcomp]
              exact va_assign hcls
            · obtain ⟨c0, t0, f1, f2, f3⟩ := Cond.castable_spec (va_Nw.use (A := args) rfl (hC lo O s X.2.2.2.2.1 X.2.2.1))
              have e1 : c0 = D.1 ci := Option.some.inj (f1.symm.trans hcls.1)
              have e2 : t0 = cm1 := Option.some.inj (f2.symm.trans r3)
              rw [← e1, ← e2]
              exact f3
          have q2' : cellV.cls = D.1 ci := q2
          refine ⟨rfl, cellV, (show T.heap[y]? = some cellV by rw [hT]; exact q1), (fun q h => by rw [q3] at h; cases h), ⟨kC', by rw [q2']; exact hkC'⟩, ?_, ?_⟩
          · exact ⟨kE', hkE'⟩
          · show vm₁.assignable _ _ = true
            rw [hal.assignable, q2']
            exact hasg)
      (g := F0 m pc ls (.int n :: .int dp :: .ref a :: .int sp :: .ref a0 :: r)) rfl (by show ls.size = c.maxLocals; rw [X.1.2.2.1]; exact b6.1) (rest := r) rfl (by rw [X.1.2.1]; exact hd) (Nat.le_trans hd0 X.2.2.2.2.2.1) (by have hwl := X.2.2.2.2.2.2; show 2 * 0 + _ + _ ≤ _; omega)
    have e1 : copied (vp_cell (cA t) (n0, .inr (.inr (.inr (.inr f))))) (vp_cell (cA t) (n1, .inr (.inr (.inr (.inr g))))) sp dp n = vp_cell (cA t) (n1, .inr (.inr (.inr (.inr (va_cpy f g sp.toNatClampNeg dp.toNatClampNeg n.toNatClampNeg))))) := by
      rw [vp_cell_q, vp_cell_q, vp_cell_q]
      exact va_copied (fun z => va_rf z) (cA t) (cA t) f g h4
    rw [e1] at X' step
    have hl : a < H.size := (Array.getElem?_eq_some_iff.mp hc1).1
    have hheap : ((T.setVm vm').setCell a (vp_cell (cA t) (n1, .inr (.inr (.inr (.inr (va_cpy f g sp.toNatClampNeg dp.toNatClampNeg n.toNatClampNeg))))))).heap = H.setIfInBounds a (vp_cell (cA t) (n1, .inr (.inr (.inr (.inr (va_cpy f g sp.toNatClampNeg dp.toNatClampNeg n.toNatClampNeg)))))) := by rw [← hT]; rfl
    have oq : ∀ q : Nat, q ≠ a → (H.setIfInBounds a (vp_cell (cA t) (n1, .inr (.inr (.inr (.inr (va_cpy f g sp.toNatClampNeg dp.toNatClampNeg n.toNatClampNeg)))))))[q]? = H[q]? := fun q hq => by simp [Array.getElem?_setIfInBounds, Ne.symm hq]
    obtain ⟨t2, a1', b1'⟩ := k _ _ ls (b1.put (x := .inl (t, n1, .inr (.inr (.inr (.inr (va_cpy f g sp.toNatClampNeg dp.toNatClampNeg n.toNatClampNeg)))))) hloa (by simp) oq (show (H.setIfInBounds a _)[a]? = some _ by simp [Array.getElem?_setIfInBounds, hl])) (fun q hq => by
      rcases List.mem_append.mp hq with h | h
      · exact b2 q h
      · obtain ⟨z, -, hz⟩ := List.mem_map.mp h
        rw [← hz]
        exact hloa) (fun q hq => by rw [oq q (by omega)]; exact b3 q hq) (by simp; exact b4) b5 b6 _ hheap X'
    exact ⟨t2, step t2 a1', b1'⟩
  · obtain ⟨n, dp, sp, a1, a0, r, n0, n1, f, g, -, -, -, -, -, -, -, -, -, -, hx⟩ := e1
    cases hx
end CPY
end
section
-- ===== PART A: goes FIRST, ahead of the names: the tables' words, and 'selects' of the private methods out of them =====
/-- a private method of a class that the tables say can be made, by its rows of tables_1 -/
def lw_okq (q : MethodName × Nat) : Prop := (q.1.cls ≠ "java/lang/invoke/MethodHandle" ∧ q.1.cls ≠ "java/lang/invoke/VarHandle") ∧ Cond.instantiable q.1.cls q.2 ∈ tables_1 ∧ Cond.privateMethod q.1 ∈ tables_1 ∧ Cond.instanceMethod q.1 ∈ tables_1
theorem lw_p0 : lw_okq (⟨"java/util/ArrayList", "add", "(Ljava/lang/Object;[Ljava/lang/Object;I)V"⟩, 3) := ⟨⟨by decide +kernel, by decide +kernel⟩, List.mem_of_getElem? (i := 42) (by decide +kernel), List.mem_of_getElem? (i := 329) (by decide +kernel), List.mem_of_getElem? (i := 330) (by decide +kernel)⟩
theorem lw_p1 : lw_okq (⟨"java/util/ArrayList", "grow", "()[Ljava/lang/Object;"⟩, 3) := ⟨⟨by decide +kernel, by decide +kernel⟩, List.mem_of_getElem? (i := 42) (by decide +kernel), List.mem_of_getElem? (i := 333) (by decide +kernel), List.mem_of_getElem? (i := 334) (by decide +kernel)⟩
theorem lw_p2 : lw_okq (⟨"java/util/ArrayList", "grow", "(I)[Ljava/lang/Object;"⟩, 3) := ⟨⟨by decide +kernel, by decide +kernel⟩, List.mem_of_getElem? (i := 42) (by decide +kernel), List.mem_of_getElem? (i := 337) (by decide +kernel), List.mem_of_getElem? (i := 338) (by decide +kernel)⟩
theorem lw_p3 : lw_okq (⟨"MessageHub", "canSend", "(I)Z"⟩, 3) := ⟨⟨by decide +kernel, by decide +kernel⟩, List.mem_of_getElem? (i := 25) (by decide +kernel), List.mem_of_getElem? (i := 401) (by decide +kernel), List.mem_of_getElem? (i := 402) (by decide +kernel)⟩
theorem lw_p4 : lw_okq (⟨"MessageHub", "canKeep", "(I)Z"⟩, 3) := ⟨⟨by decide +kernel, by decide +kernel⟩, List.mem_of_getElem? (i := 25) (by decide +kernel), List.mem_of_getElem? (i := 437) (by decide +kernel), List.mem_of_getElem? (i := 438) (by decide +kernel)⟩
theorem lw_p5 : lw_okq (⟨"MessageHub$Client", "pump", "()V"⟩, 7) := ⟨⟨by decide +kernel, by decide +kernel⟩, List.mem_of_getElem? (i := 87) (by decide +kernel), List.mem_of_getElem? (i := 499) (by decide +kernel), List.mem_of_getElem? (i := 500) (by decide +kernel)⟩
theorem lw_p6 : lw_okq (⟨"java/util/ArrayList", "fastRemove", "([Ljava/lang/Object;I)V"⟩, 3) := ⟨⟨by decide +kernel, by decide +kernel⟩, List.mem_of_getElem? (i := 42) (by decide +kernel), List.mem_of_getElem? (i := 548) (by decide +kernel), List.mem_of_getElem? (i := 549) (by decide +kernel)⟩
theorem lw_p7 : lw_okq (⟨"MessageHub$Client", "receiveConnack", "(LMessageHub$Packet;)V"⟩, 7) := ⟨⟨by decide +kernel, by decide +kernel⟩, List.mem_of_getElem? (i := 87) (by decide +kernel), List.mem_of_getElem? (i := 557) (by decide +kernel), List.mem_of_getElem? (i := 558) (by decide +kernel)⟩
theorem lw_p8 : lw_okq (⟨"MessageHub$Client", "startOver", "()V"⟩, 7) := ⟨⟨by decide +kernel, by decide +kernel⟩, List.mem_of_getElem? (i := 87) (by decide +kernel), List.mem_of_getElem? (i := 565) (by decide +kernel), List.mem_of_getElem? (i := 566) (by decide +kernel)⟩
theorem lw_p9 : lw_okq (⟨"MessageHub$Client", "sendAgain", "()V"⟩, 7) := ⟨⟨by decide +kernel, by decide +kernel⟩, List.mem_of_getElem? (i := 87) (by decide +kernel), List.mem_of_getElem? (i := 574) (by decide +kernel), List.mem_of_getElem? (i := 575) (by decide +kernel)⟩
theorem lw_p10 : lw_okq (⟨"MessageHub$Client", "receivePublish", "(LMessageHub$Packet;)V"⟩, 7) := ⟨⟨by decide +kernel, by decide +kernel⟩, List.mem_of_getElem? (i := 87) (by decide +kernel), List.mem_of_getElem? (i := 585) (by decide +kernel), List.mem_of_getElem? (i := 586) (by decide +kernel)⟩
theorem lw_p11 : lw_okq (⟨"MessageHub$Client", "putIntoInbox", "(I)V"⟩, 7) := ⟨⟨by decide +kernel, by decide +kernel⟩, List.mem_of_getElem? (i := 87) (by decide +kernel), List.mem_of_getElem? (i := 593) (by decide +kernel), List.mem_of_getElem? (i := 594) (by decide +kernel)⟩
theorem lw_p12 : lw_okq (⟨"MessageHub$Client", "receivePubrel", "(LMessageHub$Packet;)V"⟩, 7) := ⟨⟨by decide +kernel, by decide +kernel⟩, List.mem_of_getElem? (i := 87) (by decide +kernel), List.mem_of_getElem? (i := 604) (by decide +kernel), List.mem_of_getElem? (i := 605) (by decide +kernel)⟩
theorem lw_p13 : lw_okq (⟨"MessageHub$Client", "receivePubrec", "(LMessageHub$Packet;)V"⟩, 7) := ⟨⟨by decide +kernel, by decide +kernel⟩, List.mem_of_getElem? (i := 87) (by decide +kernel), List.mem_of_getElem? (i := 616) (by decide +kernel), List.mem_of_getElem? (i := 617) (by decide +kernel)⟩
theorem lw_p14 : lw_okq (⟨"MessageHub$Broker", "closeAbruptly", "(I)V"⟩, 5) := ⟨⟨by decide +kernel, by decide +kernel⟩, List.mem_of_getElem? (i := 129) (by decide +kernel), List.mem_of_getElem? (i := 631) (by decide +kernel), List.mem_of_getElem? (i := 632) (by decide +kernel)⟩
theorem lw_p15 : lw_okq (⟨"MessageHub$Broker", "closeNormally", "(I)V"⟩, 5) := ⟨⟨by decide +kernel, by decide +kernel⟩, List.mem_of_getElem? (i := 129) (by decide +kernel), List.mem_of_getElem? (i := 635) (by decide +kernel), List.mem_of_getElem? (i := 636) (by decide +kernel)⟩
def lw_privs_1 : List (MethodName × Nat) := [(⟨"java/util/ArrayList", "add", "(Ljava/lang/Object;[Ljava/lang/Object;I)V"⟩, 3), (⟨"java/util/ArrayList", "grow", "()[Ljava/lang/Object;"⟩, 3), (⟨"java/util/ArrayList", "grow", "(I)[Ljava/lang/Object;"⟩, 3), (⟨"MessageHub", "canSend", "(I)Z"⟩, 3), (⟨"MessageHub", "canKeep", "(I)Z"⟩, 3), (⟨"MessageHub$Client", "pump", "()V"⟩, 7), (⟨"java/util/ArrayList", "fastRemove", "([Ljava/lang/Object;I)V"⟩, 3), (⟨"MessageHub$Client", "receiveConnack", "(LMessageHub$Packet;)V"⟩, 7), (⟨"MessageHub$Client", "startOver", "()V"⟩, 7), (⟨"MessageHub$Client", "sendAgain", "()V"⟩, 7), (⟨"MessageHub$Client", "receivePublish", "(LMessageHub$Packet;)V"⟩, 7), (⟨"MessageHub$Client", "putIntoInbox", "(I)V"⟩, 7), (⟨"MessageHub$Client", "receivePubrel", "(LMessageHub$Packet;)V"⟩, 7), (⟨"MessageHub$Client", "receivePubrec", "(LMessageHub$Packet;)V"⟩, 7), (⟨"MessageHub$Broker", "closeAbruptly", "(I)V"⟩, 5), (⟨"MessageHub$Broker", "closeNormally", "(I)V"⟩, 5)]
theorem lw_r1 : ∀ q ∈ lw_privs_1, lw_okq q := List.forall_mem_cons.mpr ⟨lw_p0, List.forall_mem_cons.mpr ⟨lw_p1, List.forall_mem_cons.mpr ⟨lw_p2, List.forall_mem_cons.mpr ⟨lw_p3, List.forall_mem_cons.mpr ⟨lw_p4, List.forall_mem_cons.mpr ⟨lw_p5, List.forall_mem_cons.mpr ⟨lw_p6, List.forall_mem_cons.mpr ⟨lw_p7, List.forall_mem_cons.mpr ⟨lw_p8, List.forall_mem_cons.mpr ⟨lw_p9, List.forall_mem_cons.mpr ⟨lw_p10, List.forall_mem_cons.mpr ⟨lw_p11, List.forall_mem_cons.mpr ⟨lw_p12, List.forall_mem_cons.mpr ⟨lw_p13, List.forall_mem_cons.mpr ⟨lw_p14, List.forall_mem_cons.mpr ⟨lw_p15, fun _ h => absurd h List.not_mem_nil⟩⟩⟩⟩⟩⟩⟩⟩⟩⟩⟩⟩⟩⟩⟩⟩
theorem lw_p16 : lw_okq (⟨"MessageHub$Broker", "accept", "(ILMessageHub$Message;)Z"⟩, 5) := ⟨⟨by decide +kernel, by decide +kernel⟩, List.mem_of_getElem? (i := 129) (by decide +kernel), List.mem_of_getElem? (i := 660) (by decide +kernel), List.mem_of_getElem? (i := 661) (by decide +kernel)⟩
theorem lw_p17 : lw_okq (⟨"MessageHub$Broker", "spread", "(ILMessageHub$Message;Z)V"⟩, 5) := ⟨⟨by decide +kernel, by decide +kernel⟩, List.mem_of_getElem? (i := 129) (by decide +kernel), List.mem_of_getElem? (i := 688) (by decide +kernel), List.mem_of_getElem? (i := 689) (by decide +kernel)⟩
theorem lw_p18 : lw_okq (⟨"MessageHub$Broker", "hasLineRoom", "(I)Z"⟩, 5) := ⟨⟨by decide +kernel, by decide +kernel⟩, List.mem_of_getElem? (i := 129) (by decide +kernel), List.mem_of_getElem? (i := 696) (by decide +kernel), List.mem_of_getElem? (i := 697) (by decide +kernel)⟩
theorem lw_p19 : lw_okq (⟨"MessageHub$Broker", "send", "(ILMessageHub$Packet;)V"⟩, 5) := ⟨⟨by decide +kernel, by decide +kernel⟩, List.mem_of_getElem? (i := 129) (by decide +kernel), List.mem_of_getElem? (i := 707) (by decide +kernel), List.mem_of_getElem? (i := 708) (by decide +kernel)⟩
theorem lw_p20 : lw_okq (⟨"MessageHub$Broker", "retain", "(LMessageHub$Message;)V"⟩, 5) := ⟨⟨by decide +kernel, by decide +kernel⟩, List.mem_of_getElem? (i := 129) (by decide +kernel), List.mem_of_getElem? (i := 712) (by decide +kernel), List.mem_of_getElem? (i := 713) (by decide +kernel)⟩
theorem lw_p21 : lw_okq (⟨"MessageHub$Broker", "findRetained", "(J)I"⟩, 5) := ⟨⟨by decide +kernel, by decide +kernel⟩, List.mem_of_getElem? (i := 129) (by decide +kernel), List.mem_of_getElem? (i := 716) (by decide +kernel), List.mem_of_getElem? (i := 717) (by decide +kernel)⟩
theorem lw_p22 : lw_okq (⟨"MessageHub$Broker", "pump", "(I)V"⟩, 5) := ⟨⟨by decide +kernel, by decide +kernel⟩, List.mem_of_getElem? (i := 129) (by decide +kernel), List.mem_of_getElem? (i := 726) (by decide +kernel), List.mem_of_getElem? (i := 727) (by decide +kernel)⟩
theorem lw_p23 : lw_okq (⟨"MessageHub$Broker", "receiveConnect", "(ILMessageHub$Packet;)V"⟩, 5) := ⟨⟨by decide +kernel, by decide +kernel⟩, List.mem_of_getElem? (i := 129) (by decide +kernel), List.mem_of_getElem? (i := 735) (by decide +kernel), List.mem_of_getElem? (i := 736) (by decide +kernel)⟩
theorem lw_p24 : lw_okq (⟨"MessageHub$Broker", "receivePublish", "(ILMessageHub$Packet;)V"⟩, 5) := ⟨⟨by decide +kernel, by decide +kernel⟩, List.mem_of_getElem? (i := 129) (by decide +kernel), List.mem_of_getElem? (i := 747) (by decide +kernel), List.mem_of_getElem? (i := 748) (by decide +kernel)⟩
theorem lw_p25 : lw_okq (⟨"MessageHub$Broker", "receiveSubscribe", "(ILMessageHub$Packet;)V"⟩, 5) := ⟨⟨by decide +kernel, by decide +kernel⟩, List.mem_of_getElem? (i := 129) (by decide +kernel), List.mem_of_getElem? (i := 757) (by decide +kernel), List.mem_of_getElem? (i := 758) (by decide +kernel)⟩
theorem lw_p26 : lw_okq (⟨"MessageHub$Broker", "giveRetained", "(ILMessageHub$Message;)V"⟩, 5) := ⟨⟨by decide +kernel, by decide +kernel⟩, List.mem_of_getElem? (i := 129) (by decide +kernel), List.mem_of_getElem? (i := 790) (by decide +kernel), List.mem_of_getElem? (i := 791) (by decide +kernel)⟩
theorem lw_p27 : lw_okq (⟨"MessageHub$Broker", "receiveUnsubscribe", "(ILMessageHub$Packet;)V"⟩, 5) := ⟨⟨by decide +kernel, by decide +kernel⟩, List.mem_of_getElem? (i := 129) (by decide +kernel), List.mem_of_getElem? (i := 794) (by decide +kernel), List.mem_of_getElem? (i := 795) (by decide +kernel)⟩
theorem lw_p28 : lw_okq (⟨"MessageHubModel", "isFilter", "(J)Z"⟩, 65) := ⟨⟨by decide +kernel, by decide +kernel⟩, List.mem_of_getElem? (i := 893) (by decide +kernel), List.mem_of_getElem? (i := 1101) (by decide +kernel), List.mem_of_getElem? (i := 1102) (by decide +kernel)⟩
theorem lw_p29 : lw_okq (⟨"MessageHubModel", "isTopic", "(J)Z"⟩, 65) := ⟨⟨by decide +kernel, by decide +kernel⟩, List.mem_of_getElem? (i := 893) (by decide +kernel), List.mem_of_getElem? (i := 1112) (by decide +kernel), List.mem_of_getElem? (i := 1113) (by decide +kernel)⟩
theorem lw_p30 : lw_okq (⟨"MessageHubModel", "fits", "(JJ)Z"⟩, 65) := ⟨⟨by decide +kernel, by decide +kernel⟩, List.mem_of_getElem? (i := 893) (by decide +kernel), List.mem_of_getElem? (i := 1116) (by decide +kernel), List.mem_of_getElem? (i := 1117) (by decide +kernel)⟩
theorem lw_p31 : lw_okq (⟨"MessageHubModel", "send", "(IIII)I"⟩, 65) := ⟨⟨by decide +kernel, by decide +kernel⟩, List.mem_of_getElem? (i := 893) (by decide +kernel), List.mem_of_getElem? (i := 1138) (by decide +kernel), List.mem_of_getElem? (i := 1139) (by decide +kernel)⟩
def lw_privs_2 : List (MethodName × Nat) := [(⟨"MessageHub$Broker", "accept", "(ILMessageHub$Message;)Z"⟩, 5), (⟨"MessageHub$Broker", "spread", "(ILMessageHub$Message;Z)V"⟩, 5), (⟨"MessageHub$Broker", "hasLineRoom", "(I)Z"⟩, 5), (⟨"MessageHub$Broker", "send", "(ILMessageHub$Packet;)V"⟩, 5), (⟨"MessageHub$Broker", "retain", "(LMessageHub$Message;)V"⟩, 5), (⟨"MessageHub$Broker", "findRetained", "(J)I"⟩, 5), (⟨"MessageHub$Broker", "pump", "(I)V"⟩, 5), (⟨"MessageHub$Broker", "receiveConnect", "(ILMessageHub$Packet;)V"⟩, 5), (⟨"MessageHub$Broker", "receivePublish", "(ILMessageHub$Packet;)V"⟩, 5), (⟨"MessageHub$Broker", "receiveSubscribe", "(ILMessageHub$Packet;)V"⟩, 5), (⟨"MessageHub$Broker", "giveRetained", "(ILMessageHub$Message;)V"⟩, 5), (⟨"MessageHub$Broker", "receiveUnsubscribe", "(ILMessageHub$Packet;)V"⟩, 5), (⟨"MessageHubModel", "isFilter", "(J)Z"⟩, 65), (⟨"MessageHubModel", "isTopic", "(J)Z"⟩, 65), (⟨"MessageHubModel", "fits", "(JJ)Z"⟩, 65), (⟨"MessageHubModel", "send", "(IIII)I"⟩, 65)]
theorem lw_r2 : ∀ q ∈ lw_privs_2, lw_okq q := List.forall_mem_cons.mpr ⟨lw_p16, List.forall_mem_cons.mpr ⟨lw_p17, List.forall_mem_cons.mpr ⟨lw_p18, List.forall_mem_cons.mpr ⟨lw_p19, List.forall_mem_cons.mpr ⟨lw_p20, List.forall_mem_cons.mpr ⟨lw_p21, List.forall_mem_cons.mpr ⟨lw_p22, List.forall_mem_cons.mpr ⟨lw_p23, List.forall_mem_cons.mpr ⟨lw_p24, List.forall_mem_cons.mpr ⟨lw_p25, List.forall_mem_cons.mpr ⟨lw_p26, List.forall_mem_cons.mpr ⟨lw_p27, List.forall_mem_cons.mpr ⟨lw_p28, List.forall_mem_cons.mpr ⟨lw_p29, List.forall_mem_cons.mpr ⟨lw_p30, List.forall_mem_cons.mpr ⟨lw_p31, fun _ h => absurd h List.not_mem_nil⟩⟩⟩⟩⟩⟩⟩⟩⟩⟩⟩⟩⟩⟩⟩⟩
theorem lw_p32 : lw_okq (⟨"MessageHubModel", "closeLink", "(I)V"⟩, 65) := ⟨⟨by decide +kernel, by decide +kernel⟩, List.mem_of_getElem? (i := 893) (by decide +kernel), List.mem_of_getElem? (i := 1146) (by decide +kernel), List.mem_of_getElem? (i := 1147) (by decide +kernel)⟩
theorem lw_p33 : lw_okq (⟨"MessageHubModel", "speaks", "(I)Z"⟩, 65) := ⟨⟨by decide +kernel, by decide +kernel⟩, List.mem_of_getElem? (i := 893) (by decide +kernel), List.mem_of_getElem? (i := 1154) (by decide +kernel), List.mem_of_getElem? (i := 1155) (by decide +kernel)⟩
theorem lw_p34 : lw_okq (⟨"MessageHubModel", "sendPublish", "(IJIII)V"⟩, 65) := ⟨⟨by decide +kernel, by decide +kernel⟩, List.mem_of_getElem? (i := 893) (by decide +kernel), List.mem_of_getElem? (i := 1174) (by decide +kernel), List.mem_of_getElem? (i := 1175) (by decide +kernel)⟩
theorem lw_p35 : lw_okq (⟨"MessageHubModel", "marked", "(IZZ)V"⟩, 65) := ⟨⟨by decide +kernel, by decide +kernel⟩, List.mem_of_getElem? (i := 893) (by decide +kernel), List.mem_of_getElem? (i := 1178) (by decide +kernel), List.mem_of_getElem? (i := 1179) (by decide +kernel)⟩
theorem lw_p36 : lw_okq (⟨"MessageHubModel", "pumpClient", "(I)V"⟩, 65) := ⟨⟨by decide +kernel, by decide +kernel⟩, List.mem_of_getElem? (i := 893) (by decide +kernel), List.mem_of_getElem? (i := 1182) (by decide +kernel), List.mem_of_getElem? (i := 1183) (by decide +kernel)⟩
theorem lw_p37 : lw_okq (⟨"MessageHubModel", "underWay", "(I)I"⟩, 65) := ⟨⟨by decide +kernel, by decide +kernel⟩, List.mem_of_getElem? (i := 893) (by decide +kernel), List.mem_of_getElem? (i := 1186) (by decide +kernel), List.mem_of_getElem? (i := 1187) (by decide +kernel)⟩
theorem lw_p38 : lw_okq (⟨"MessageHubModel", "freeId", "(I)I"⟩, 65) := ⟨⟨by decide +kernel, by decide +kernel⟩, List.mem_of_getElem? (i := 893) (by decide +kernel), List.mem_of_getElem? (i := 1190) (by decide +kernel), List.mem_of_getElem? (i := 1191) (by decide +kernel)⟩
theorem lw_p39 : lw_okq (⟨"MessageHubModel", "sendStored", "(IIZ)V"⟩, 65) := ⟨⟨by decide +kernel, by decide +kernel⟩, List.mem_of_getElem? (i := 893) (by decide +kernel), List.mem_of_getElem? (i := 1194) (by decide +kernel), List.mem_of_getElem? (i := 1195) (by decide +kernel)⟩
theorem lw_p40 : lw_okq (⟨"MessageHubModel", "takeFirst", "(I)V"⟩, 65) := ⟨⟨by decide +kernel, by decide +kernel⟩, List.mem_of_getElem? (i := 893) (by decide +kernel), List.mem_of_getElem? (i := 1202) (by decide +kernel), List.mem_of_getElem? (i := 1203) (by decide +kernel)⟩
theorem lw_p41 : lw_okq (⟨"MessageHubModel", "clientGets", "(I)V"⟩, 65) := ⟨⟨by decide +kernel, by decide +kernel⟩, List.mem_of_getElem? (i := 893) (by decide +kernel), List.mem_of_getElem? (i := 1206) (by decide +kernel), List.mem_of_getElem? (i := 1207) (by decide +kernel)⟩
theorem lw_p42 : lw_okq (⟨"MessageHubModel", "greeted", "(I)V"⟩, 65) := ⟨⟨by decide +kernel, by decide +kernel⟩, List.mem_of_getElem? (i := 893) (by decide +kernel), List.mem_of_getElem? (i := 1210) (by decide +kernel), List.mem_of_getElem? (i := 1211) (by decide +kernel)⟩
theorem lw_p43 : lw_okq (⟨"MessageHubModel", "forget", "(II)V"⟩, 65) := ⟨⟨by decide +kernel, by decide +kernel⟩, List.mem_of_getElem? (i := 893) (by decide +kernel), List.mem_of_getElem? (i := 1214) (by decide +kernel), List.mem_of_getElem? (i := 1215) (by decide +kernel)⟩
theorem lw_p44 : lw_okq (⟨"MessageHubModel", "inboxed", "(I)V"⟩, 65) := ⟨⟨by decide +kernel, by decide +kernel⟩, List.mem_of_getElem? (i := 893) (by decide +kernel), List.mem_of_getElem? (i := 1218) (by decide +kernel), List.mem_of_getElem? (i := 1219) (by decide +kernel)⟩
theorem lw_p45 : lw_okq (⟨"MessageHubModel", "clientAnswered", "(I)V"⟩, 65) := ⟨⟨by decide +kernel, by decide +kernel⟩, List.mem_of_getElem? (i := 893) (by decide +kernel), List.mem_of_getElem? (i := 1222) (by decide +kernel), List.mem_of_getElem? (i := 1223) (by decide +kernel)⟩
theorem lw_p46 : lw_okq (⟨"MessageHubModel", "storePlace", "(I)I"⟩, 65) := ⟨⟨by decide +kernel, by decide +kernel⟩, List.mem_of_getElem? (i := 893) (by decide +kernel), List.mem_of_getElem? (i := 1226) (by decide +kernel), List.mem_of_getElem? (i := 1227) (by decide +kernel)⟩
theorem lw_p47 : lw_okq (⟨"MessageHubModel", "brokerGets", "(I)V"⟩, 65) := ⟨⟨by decide +kernel, by decide +kernel⟩, List.mem_of_getElem? (i := 893) (by decide +kernel), List.mem_of_getElem? (i := 1230) (by decide +kernel), List.mem_of_getElem? (i := 1231) (by decide +kernel)⟩
def lw_privs_3 : List (MethodName × Nat) := [(⟨"MessageHubModel", "closeLink", "(I)V"⟩, 65), (⟨"MessageHubModel", "speaks", "(I)Z"⟩, 65), (⟨"MessageHubModel", "sendPublish", "(IJIII)V"⟩, 65), (⟨"MessageHubModel", "marked", "(IZZ)V"⟩, 65), (⟨"MessageHubModel", "pumpClient", "(I)V"⟩, 65), (⟨"MessageHubModel", "underWay", "(I)I"⟩, 65), (⟨"MessageHubModel", "freeId", "(I)I"⟩, 65), (⟨"MessageHubModel", "sendStored", "(IIZ)V"⟩, 65), (⟨"MessageHubModel", "takeFirst", "(I)V"⟩, 65), (⟨"MessageHubModel", "clientGets", "(I)V"⟩, 65), (⟨"MessageHubModel", "greeted", "(I)V"⟩, 65), (⟨"MessageHubModel", "forget", "(II)V"⟩, 65), (⟨"MessageHubModel", "inboxed", "(I)V"⟩, 65), (⟨"MessageHubModel", "clientAnswered", "(I)V"⟩, 65), (⟨"MessageHubModel", "storePlace", "(I)I"⟩, 65), (⟨"MessageHubModel", "brokerGets", "(I)V"⟩, 65)]
theorem lw_r3 : ∀ q ∈ lw_privs_3, lw_okq q := List.forall_mem_cons.mpr ⟨lw_p32, List.forall_mem_cons.mpr ⟨lw_p33, List.forall_mem_cons.mpr ⟨lw_p34, List.forall_mem_cons.mpr ⟨lw_p35, List.forall_mem_cons.mpr ⟨lw_p36, List.forall_mem_cons.mpr ⟨lw_p37, List.forall_mem_cons.mpr ⟨lw_p38, List.forall_mem_cons.mpr ⟨lw_p39, List.forall_mem_cons.mpr ⟨lw_p40, List.forall_mem_cons.mpr ⟨lw_p41, List.forall_mem_cons.mpr ⟨lw_p42, List.forall_mem_cons.mpr ⟨lw_p43, List.forall_mem_cons.mpr ⟨lw_p44, List.forall_mem_cons.mpr ⟨lw_p45, List.forall_mem_cons.mpr ⟨lw_p46, List.forall_mem_cons.mpr ⟨lw_p47, fun _ h => absurd h List.not_mem_nil⟩⟩⟩⟩⟩⟩⟩⟩⟩⟩⟩⟩⟩⟩⟩⟩
theorem lw_p48 : lw_okq (⟨"MessageHubModel", "opened", "(I)V"⟩, 65) := ⟨⟨by decide +kernel, by decide +kernel⟩, List.mem_of_getElem? (i := 893) (by decide +kernel), List.mem_of_getElem? (i := 1234) (by decide +kernel), List.mem_of_getElem? (i := 1235) (by decide +kernel)⟩
theorem lw_p49 : lw_okq (⟨"MessageHubModel", "closeConnection", "(IZ)V"⟩, 65) := ⟨⟨by decide +kernel, by decide +kernel⟩, List.mem_of_getElem? (i := 893) (by decide +kernel), List.mem_of_getElem? (i := 1238) (by decide +kernel), List.mem_of_getElem? (i := 1239) (by decide +kernel)⟩
theorem lw_p50 : lw_okq (⟨"MessageHubModel", "endSession", "(I)V"⟩, 65) := ⟨⟨by decide +kernel, by decide +kernel⟩, List.mem_of_getElem? (i := 893) (by decide +kernel), List.mem_of_getElem? (i := 1242) (by decide +kernel), List.mem_of_getElem? (i := 1243) (by decide +kernel)⟩
theorem lw_p51 : lw_okq (⟨"MessageHubModel", "accept", "(IJIIZ)Z"⟩, 65) := ⟨⟨by decide +kernel, by decide +kernel⟩, List.mem_of_getElem? (i := 893) (by decide +kernel), List.mem_of_getElem? (i := 1246) (by decide +kernel), List.mem_of_getElem? (i := 1247) (by decide +kernel)⟩
theorem lw_p52 : lw_okq (⟨"MessageHubModel", "wants", "(IIIJ)Z"⟩, 65) := ⟨⟨by decide +kernel, by decide +kernel⟩, List.mem_of_getElem? (i := 893) (by decide +kernel), List.mem_of_getElem? (i := 1250) (by decide +kernel), List.mem_of_getElem? (i := 1251) (by decide +kernel)⟩
theorem lw_p53 : lw_okq (⟨"MessageHubModel", "copy", "(IJIIZ)V"⟩, 65) := ⟨⟨by decide +kernel, by decide +kernel⟩, List.mem_of_getElem? (i := 893) (by decide +kernel), List.mem_of_getElem? (i := 1257) (by decide +kernel), List.mem_of_getElem? (i := 1258) (by decide +kernel)⟩
theorem lw_p54 : lw_okq (⟨"MessageHubModel", "join", "(IJIIZ)V"⟩, 65) := ⟨⟨by decide +kernel, by decide +kernel⟩, List.mem_of_getElem? (i := 893) (by decide +kernel), List.mem_of_getElem? (i := 1261) (by decide +kernel), List.mem_of_getElem? (i := 1262) (by decide +kernel)⟩
theorem lw_p55 : lw_okq (⟨"MessageHubModel", "retain", "(JII)V"⟩, 65) := ⟨⟨by decide +kernel, by decide +kernel⟩, List.mem_of_getElem? (i := 893) (by decide +kernel), List.mem_of_getElem? (i := 1265) (by decide +kernel), List.mem_of_getElem? (i := 1266) (by decide +kernel)⟩
theorem lw_p56 : lw_okq (⟨"MessageHubModel", "keptPlace", "(J)I"⟩, 65) := ⟨⟨by decide +kernel, by decide +kernel⟩, List.mem_of_getElem? (i := 893) (by decide +kernel), List.mem_of_getElem? (i := 1269) (by decide +kernel), List.mem_of_getElem? (i := 1270) (by decide +kernel)⟩
theorem lw_p57 : lw_okq (⟨"MessageHubModel", "pumpSession", "(I)V"⟩, 65) := ⟨⟨by decide +kernel, by decide +kernel⟩, List.mem_of_getElem? (i := 893) (by decide +kernel), List.mem_of_getElem? (i := 1273) (by decide +kernel), List.mem_of_getElem? (i := 1274) (by decide +kernel)⟩
theorem lw_p58 : lw_okq (⟨"MessageHubModel", "sendHere", "(IIZ)V"⟩, 65) := ⟨⟨by decide +kernel, by decide +kernel⟩, List.mem_of_getElem? (i := 893) (by decide +kernel), List.mem_of_getElem? (i := 1277) (by decide +kernel), List.mem_of_getElem? (i := 1278) (by decide +kernel)⟩
theorem lw_p59 : lw_okq (⟨"MessageHubModel", "answer", "(III)V"⟩, 65) := ⟨⟨by decide +kernel, by decide +kernel⟩, List.mem_of_getElem? (i := 893) (by decide +kernel), List.mem_of_getElem? (i := 1281) (by decide +kernel), List.mem_of_getElem? (i := 1282) (by decide +kernel)⟩
theorem lw_p60 : lw_okq (⟨"MessageHubModel", "published", "(I)V"⟩, 65) := ⟨⟨by decide +kernel, by decide +kernel⟩, List.mem_of_getElem? (i := 893) (by decide +kernel), List.mem_of_getElem? (i := 1285) (by decide +kernel), List.mem_of_getElem? (i := 1286) (by decide +kernel)⟩
theorem lw_p61 : lw_okq (⟨"MessageHubModel", "brokerAnswered", "(I)V"⟩, 65) := ⟨⟨by decide +kernel, by decide +kernel⟩, List.mem_of_getElem? (i := 893) (by decide +kernel), List.mem_of_getElem? (i := 1289) (by decide +kernel), List.mem_of_getElem? (i := 1290) (by decide +kernel)⟩
theorem lw_p62 : lw_okq (⟨"MessageHubModel", "awayPlace", "(I)I"⟩, 65) := ⟨⟨by decide +kernel, by decide +kernel⟩, List.mem_of_getElem? (i := 893) (by decide +kernel), List.mem_of_getElem? (i := 1293) (by decide +kernel), List.mem_of_getElem? (i := 1294) (by decide +kernel)⟩
theorem lw_p63 : lw_okq (⟨"MessageHubModel", "done", "(II)V"⟩, 65) := ⟨⟨by decide +kernel, by decide +kernel⟩, List.mem_of_getElem? (i := 893) (by decide +kernel), List.mem_of_getElem? (i := 1297) (by decide +kernel), List.mem_of_getElem? (i := 1298) (by decide +kernel)⟩
def lw_privs_4 : List (MethodName × Nat) := [(⟨"MessageHubModel", "opened", "(I)V"⟩, 65), (⟨"MessageHubModel", "closeConnection", "(IZ)V"⟩, 65), (⟨"MessageHubModel", "endSession", "(I)V"⟩, 65), (⟨"MessageHubModel", "accept", "(IJIIZ)Z"⟩, 65), (⟨"MessageHubModel", "wants", "(IIIJ)Z"⟩, 65), (⟨"MessageHubModel", "copy", "(IJIIZ)V"⟩, 65), (⟨"MessageHubModel", "join", "(IJIIZ)V"⟩, 65), (⟨"MessageHubModel", "retain", "(JII)V"⟩, 65), (⟨"MessageHubModel", "keptPlace", "(J)I"⟩, 65), (⟨"MessageHubModel", "pumpSession", "(I)V"⟩, 65), (⟨"MessageHubModel", "sendHere", "(IIZ)V"⟩, 65), (⟨"MessageHubModel", "answer", "(III)V"⟩, 65), (⟨"MessageHubModel", "published", "(I)V"⟩, 65), (⟨"MessageHubModel", "brokerAnswered", "(I)V"⟩, 65), (⟨"MessageHubModel", "awayPlace", "(I)I"⟩, 65), (⟨"MessageHubModel", "done", "(II)V"⟩, 65)]
theorem lw_r4 : ∀ q ∈ lw_privs_4, lw_okq q := List.forall_mem_cons.mpr ⟨lw_p48, List.forall_mem_cons.mpr ⟨lw_p49, List.forall_mem_cons.mpr ⟨lw_p50, List.forall_mem_cons.mpr ⟨lw_p51, List.forall_mem_cons.mpr ⟨lw_p52, List.forall_mem_cons.mpr ⟨lw_p53, List.forall_mem_cons.mpr ⟨lw_p54, List.forall_mem_cons.mpr ⟨lw_p55, List.forall_mem_cons.mpr ⟨lw_p56, List.forall_mem_cons.mpr ⟨lw_p57, List.forall_mem_cons.mpr ⟨lw_p58, List.forall_mem_cons.mpr ⟨lw_p59, List.forall_mem_cons.mpr ⟨lw_p60, List.forall_mem_cons.mpr ⟨lw_p61, List.forall_mem_cons.mpr ⟨lw_p62, List.forall_mem_cons.mpr ⟨lw_p63, fun _ h => absurd h List.not_mem_nil⟩⟩⟩⟩⟩⟩⟩⟩⟩⟩⟩⟩⟩⟩⟩⟩
theorem lw_p64 : lw_okq (⟨"MessageHubModel", "subscribed", "(I)V"⟩, 65) := ⟨⟨by decide +kernel, by decide +kernel⟩, List.mem_of_getElem? (i := 893) (by decide +kernel), List.mem_of_getElem? (i := 1301) (by decide +kernel), List.mem_of_getElem? (i := 1302) (by decide +kernel)⟩
theorem lw_p65 : lw_okq (⟨"MessageHubModel", "subPlace", "(I)I"⟩, 65) := ⟨⟨by decide +kernel, by decide +kernel⟩, List.mem_of_getElem? (i := 893) (by decide +kernel), List.mem_of_getElem? (i := 1305) (by decide +kernel), List.mem_of_getElem? (i := 1306) (by decide +kernel)⟩
theorem lw_p66 : lw_okq (⟨"MessageHubModel", "unsubscribed", "(I)V"⟩, 65) := ⟨⟨by decide +kernel, by decide +kernel⟩, List.mem_of_getElem? (i := 893) (by decide +kernel), List.mem_of_getElem? (i := 1309) (by decide +kernel), List.mem_of_getElem? (i := 1310) (by decide +kernel)⟩
def lw_privs_5 : List (MethodName × Nat) := [(⟨"MessageHubModel", "subscribed", "(I)V"⟩, 65), (⟨"MessageHubModel", "subPlace", "(I)I"⟩, 65), (⟨"MessageHubModel", "unsubscribed", "(I)V"⟩, 65)]
theorem lw_r5 : ∀ q ∈ lw_privs_5, lw_okq q := List.forall_mem_cons.mpr ⟨lw_p64, List.forall_mem_cons.mpr ⟨lw_p65, List.forall_mem_cons.mpr ⟨lw_p66, fun _ h => absurd h List.not_mem_nil⟩⟩⟩
def lw_privs : List (MethodName × Nat) := lw_privs_1 ++ (lw_privs_2 ++ (lw_privs_3 ++ (lw_privs_4 ++ (lw_privs_5))))
def lw_tbl : List Cond := k2_sels lw_privs ++ tables_1
theorem lw_privs_ok : ∀ q ∈ lw_privs, lw_okq q := by
  show ∀ q ∈ lw_privs_1 ++ (lw_privs_2 ++ (lw_privs_3 ++ (lw_privs_4 ++ (lw_privs_5)))), lw_okq q
  exact List.forall_mem_append.mpr ⟨lw_r1, List.forall_mem_append.mpr ⟨lw_r2, List.forall_mem_append.mpr ⟨lw_r3, List.forall_mem_append.mpr ⟨lw_r4, lw_r5⟩⟩⟩⟩
end
section
/-! Words of the tables, classes, kinds of arrays, what lies below (written by wip/whole/gen.py). -/
def tb_T : List Cond := lw_tbl.filter goodWord
theorem tb_in {w : Cond} {i : Nat} (h : tables_1[i]? = some w) (g : goodWord w = true) : w ∈ tb_T := List.mem_filter.mpr ⟨List.mem_append_right _ (List.mem_of_getElem? h), g⟩
theorem tb_sel {w : Cond} {i : Nat} (h : (k2_sels lw_privs)[i]? = some w) (g : goodWord w = true) : w ∈ tb_T := List.mem_filter.mpr ⟨List.mem_append_left _ (List.mem_of_getElem? h), g⟩
theorem tb_gd {w : Cond} (h : w ∈ tb_T) : (w.onTables && w.keeps) = true ∨ ∃ ty, w = .arrayClass ty := good_of_word (List.mem_filter.mp h).2
theorem tb_ws {ws : List Cond} (ps : List Nat) (hp : ws = ps.filterMap (fun i => tables_1[i]?)) (h : ws.all goodWord = true) : ∀ w ∈ ws, w ∈ tb_T := by
  intro w hw
  have h1 := List.all_eq_true.mp h w hw
  rw [hp] at hw
  obtain ⟨i, -, hi⟩ := List.mem_filterMap.mp hw
  exact tb_in hi h1
theorem tb_all {ws : List Cond} (h : ∀ w ∈ ws, w ∈ tb_T) : GoodIn tb_T ws := fun w hw => ⟨h w hw, tb_gd (h w hw)⟩
theorem tb_cons {y : MethodName} {bs : ByteArray} {nL : Nat} {rt : Option FieldType} (h : Cond.code y bs nL rt ∈ tb_T) : ∀ w ∈ Cond.code y bs nL rt :: tb_T, w ∈ tb_T := fun w hw => by
  rcases List.mem_cons.mp hw with e | e
  · rw [e]; exact h
  · exact e
section TBW
variable {G : Nat → (State → Prop) → Prop} {own C host : String} {ix nL n d wd d' wd' : Nat} {y : MethodName} {bs : ByteArray} {rt : Option FieldType}
theorem tb_cwV (h1 : Cond.methodLink own ix y ∈ tb_T) (h2 : Cond.instanceMethod y ∈ tb_T) (h3 : Cond.selects C y y ∈ tb_T) (h4 : Cond.initialized C ∈ tb_T) (h5 : Cond.code y bs nL rt ∈ tb_T) (hd : y.cls = C ∧ y.cls ≠ "java/lang/invoke/MethodHandle" ∧ y.cls ≠ "java/lang/invoke/VarHandle" ∧ (parseMethodDescriptor y.desc).map (fun d => d.parameters.length) = some n) (hf : d' + 1 ≤ d) (hw : 8 + (nL + 11) + wd' ≤ wd) :
    ∀ (R : Room) (s : State) (args : Array Value) (O : State → Prop) (lo mc ms : Nat), (∀ w ∈ tb_T, w.before args s = true) → O s → G lo O → d ≤ R.frames → wd ≤ R.locals → CallW R s args own C ix y bs nL rt (Cond.code y bs nL rt :: tb_T) (ev_rm d' wd' mc ms) mc ms n := fun R s args O lo mc ms hts _ _ r1 r2 => by
  refine cwV n hts (tb_all fun w hw' => ?_) rfl rfl rfl hd ⟨Nat.le_trans hf r1, Nat.le_trans hw r2⟩
  rcases List.mem_append.mp hw' with q | q
  · simp only [List.mem_cons, List.not_mem_nil, or_false] at q
    rcases q with rfl | rfl | rfl | rfl
    · exact h1
    · exact h2
    · exact h3
    · exact h4
  · exact tb_cons h5 w q
theorem tb_cwS (h1 : Cond.methodLink own ix y ∈ tb_T) (h2 : Cond.static y ∈ tb_T) (h4 : Cond.initialized y.cls ∈ tb_T) (h5 : Cond.code y bs nL rt ∈ tb_T) (hd : y.cls ≠ "java/lang/invoke/MethodHandle" ∧ y.cls ≠ "java/lang/invoke/VarHandle" ∧ (parseMethodDescriptor y.desc).map (fun d => d.parameters.length) = some n) (hf : d' + 1 ≤ d) (hw : 8 + (nL + 11) + wd' ≤ wd) :
    ∀ (R : Room) (s : State) (args : Array Value) (O : State → Prop) (lo mc ms : Nat), (∀ w ∈ tb_T, w.before args s = true) → O s → G lo O → d ≤ R.frames → wd ≤ R.locals → CallB R s args own ix y bs nL rt (Cond.code y bs nL rt :: tb_T) (ev_rm d' wd' mc ms) mc ms n ∧ (Cond.static y).before args s = true := fun R s args O lo mc ms hts _ _ r1 r2 => by
  refine va_cwS n hts (tb_all fun w hw' => ?_) rfl rfl rfl hd ⟨Nat.le_trans hf r1, Nat.le_trans hw r2⟩
  rcases List.mem_append.mp hw' with q | q
  · simp only [List.mem_cons, List.not_mem_nil, or_false] at q
    rcases q with rfl | rfl | rfl
    · exact h1
    · exact h2
    · exact h4
  · exact tb_cons h5 w q
theorem tb_cwI (h1 : Cond.methodLink own ix y ∈ tb_T) (h2 : Cond.instanceMethod y ∈ tb_T) (h4 : Cond.initialized y.cls ∈ tb_T) (h5 : Cond.code y bs nL none ∈ tb_T) (hy : y.name = "<init>") (hd : y.cls ≠ "java/lang/invoke/MethodHandle" ∧ y.cls ≠ "java/lang/invoke/VarHandle" ∧ (parseMethodDescriptor y.desc).map (fun d => d.parameters.length) = some n) (hf : d' + 1 ≤ d) (hw : 8 + (nL + 11) + wd' ≤ wd) :
    ∀ (R : Room) (s : State) (args : Array Value) (O : State → Prop) (lo mc ms : Nat), (∀ w ∈ tb_T, w.before args s = true) → O s → G lo O → d ≤ R.frames → wd ≤ R.locals → CallB R s args own ix y bs nL none (Cond.code y bs nL none :: tb_T) (ev_rm d' wd' mc ms) mc ms n ∧ y.name = "<init>" ∧ (Cond.instanceMethod y).before args s = true := fun R s args O lo mc ms hts _ _ r1 r2 =>
  cwI n hts (tb_all (tb_cons h5)) rfl rfl rfl (hts _ h4) (hts _ h1) (hts _ h2) hy hd ⟨Nat.le_trans hf r1, Nat.le_trans hw r2⟩
theorem tb_cwSN (h1 : ∀ (lo : Nat) (O : State → Prop) (s : State), G lo O → O s → va_Nw (.methodLinkNest own ix y host) s) (h2 : Cond.static y ∈ tb_T) (h4 : Cond.initialized y.cls ∈ tb_T) (h5 : Cond.code y bs nL rt ∈ tb_T) (hd : y.cls ≠ "java/lang/invoke/MethodHandle" ∧ y.cls ≠ "java/lang/invoke/VarHandle" ∧ (parseMethodDescriptor y.desc).map (fun d => d.parameters.length) = some n) (hf : d' + 1 ≤ d) (hw : 8 + (nL + 11) + wd' ≤ wd) :
    ∀ (R : Room) (s : State) (args : Array Value) (O : State → Prop) (lo mc ms : Nat), (∀ w ∈ tb_T, w.before args s = true) → O s → G lo O → d ≤ R.frames → wd ≤ R.locals → va_CN R s args own ix y host bs nL rt (Cond.code y bs nL rt :: tb_T) (ev_rm d' wd' mc ms) mc ms n ∧ (Cond.static y).before args s = true ∧ True := fun R s args O lo mc ms hts ho hg r1 r2 =>
  ⟨va_cnB n hts (tb_all (tb_cons h5)) rfl rfl rfl (h1 lo O s hg ho) (hts _ h4) hd ⟨Nat.le_trans hf r1, Nat.le_trans hw r2⟩, hts _ h2, trivial⟩
theorem tb_cwIN (h1 : ∀ (lo : Nat) (O : State → Prop) (s : State), G lo O → O s → va_Nw (.methodLinkNest own ix y host) s) (h2 : Cond.instanceMethod y ∈ tb_T) (h4 : Cond.initialized y.cls ∈ tb_T) (h5 : Cond.code y bs nL none ∈ tb_T) (hy : y.name = "<init>") (hd : y.cls ≠ "java/lang/invoke/MethodHandle" ∧ y.cls ≠ "java/lang/invoke/VarHandle" ∧ (parseMethodDescriptor y.desc).map (fun d => d.parameters.length) = some n) (hf : d' + 1 ≤ d) (hw : 8 + (nL + 11) + wd' ≤ wd) :
    ∀ (R : Room) (s : State) (args : Array Value) (O : State → Prop) (lo mc ms : Nat), (∀ w ∈ tb_T, w.before args s = true) → O s → G lo O → d ≤ R.frames → wd ≤ R.locals → va_CN R s args own ix y host bs nL none (Cond.code y bs nL none :: tb_T) (ev_rm d' wd' mc ms) mc ms n ∧ y.name = "<init>" ∧ (Cond.instanceMethod y).before args s = true := fun R s args O lo mc ms hts ho hg r1 r2 =>
  ⟨va_cnB n hts (tb_all (tb_cons h5)) rfl rfl rfl (h1 lo O s hg ho) (hts _ h4) hd ⟨Nat.le_trans hf r1, Nat.le_trans hw r2⟩, hy, hts _ h2⟩
end TBW
def rc_0 : String := "MessageHub"
def fl_0 : List (String × String × String × Bool) := [("MessageHub", "links", "[LMessageHub$Link;", true), ("MessageHub", "clients", "[LMessageHub$Client;", true), ("MessageHub", "broker", "LMessageHub$Broker;", true)]
def tc_0 : u_T := fun k => fl_0.getD k ("", "", "", false)
def tl_0 : List FieldType := [.array (.object "MessageHub$Link"), .array (.object "MessageHub$Client"), .object "MessageHub$Broker"]
def ty_0 : Nat → FieldType := fun k => tl_0.getD k .int
def ff_0 : List Value := [.null, .null, .null]
theorem ht_0 : ∀ k, k < 3 → parseFieldDescriptor (tc_0 k).2.2.1 = some (ty_0 k) := by decide +kernel
theorem hn_0 : ∀ a, a < 3 → ∀ b, b < 3 → a ≠ b → (tc_0 a).2.1 ≠ (tc_0 b).2.1 := by decide +kernel
theorem hf_0 : ∀ j, j < 3 → defaultValue (ty_0 j) = vp_V ff_0 j := by decide +kernel
theorem hi_0 : ∀ w ∈ u_ws rc_0 tc_0 3, w ∈ tb_T := tb_ws [227, 229, 231] (by decide +kernel) (by decide +kernel)
def rc_1 : String := "MessageHub$Link"
def fl_1 : List (String × String × String × Bool) := [("MessageHub$Link", "up", "Ljava/util/ArrayList;", true), ("MessageHub$Link", "down", "Ljava/util/ArrayList;", true), ("MessageHub$Link", "state", "I", false), ("MessageHub$Link", "attached", "Z", false)]
def tc_1 : u_T := fun k => fl_1.getD k ("", "", "", false)
def tl_1 : List FieldType := [.object "java/util/ArrayList", .object "java/util/ArrayList", .int, .boolean]
def ty_1 : Nat → FieldType := fun k => tl_1.getD k .int
def ff_1 : List Value := [.null, .null, .int 0, .int 0]
theorem ht_1 : ∀ k, k < 4 → parseFieldDescriptor (tc_1 k).2.2.1 = some (ty_1 k) := by decide +kernel
theorem hn_1 : ∀ a, a < 4 → ∀ b, b < 4 → a ≠ b → (tc_1 a).2.1 ≠ (tc_1 b).2.1 := by decide +kernel
theorem hf_1 : ∀ j, j < 4 → defaultValue (ty_1 j) = vp_V ff_1 j := by decide +kernel
theorem hi_1 : ∀ w ∈ u_ws rc_1 tc_1 4, w ∈ tb_T := tb_ws [78, 80, 82, 84] (by decide +kernel) (by decide +kernel)
def rc_2 : String := "java/util/ArrayList"
def fl_2 : List (String × String × String × Bool) := [("java/util/ArrayList", "elementData", "[Ljava/lang/Object;", false), ("java/util/ArrayList", "size", "I", false), ("java/util/AbstractList", "modCount", "I", false)]
def tc_2 : u_T := fun k => fl_2.getD k ("", "", "", false)
def tl_2 : List FieldType := [.array (.object "java/lang/Object"), .int, .int]
def ty_2 : Nat → FieldType := fun k => tl_2.getD k .int
def ff_2 : List Value := [.null, .int 0, .int 0]
theorem ht_2 : ∀ k, k < 3 → parseFieldDescriptor (tc_2 k).2.2.1 = some (ty_2 k) := by decide +kernel
theorem hn_2 : ∀ a, a < 3 → ∀ b, b < 3 → a ≠ b → (tc_2 a).2.1 ≠ (tc_2 b).2.1 := by decide +kernel
theorem hf_2 : ∀ j, j < 3 → defaultValue (ty_2 j) = vp_V ff_2 j := by decide +kernel
theorem hi_2 : ∀ w ∈ u_ws rc_2 tc_2 3, w ∈ tb_T := tb_ws [60, 62, 64] (by decide +kernel) (by decide +kernel)
def rc_3 : String := "MessageHub$Client"
def fl_3 : List (String × String × String × Bool) := [("MessageHub$Client", "link", "LMessageHub$Link;", true), ("MessageHub$Client", "store", "Ljava/util/ArrayList;", true), ("MessageHub$Client", "held", "LMessageHub$HeldIds;", true), ("MessageHub$Client", "inbox", "[I", true), ("MessageHub$Client", "inboxCount", "I", false), ("MessageHub$Client", "willTopic", "J", false), ("MessageHub$Client", "willValue", "I", false)]
def tc_3 : u_T := fun k => fl_3.getD k ("", "", "", false)
def tl_3 : List FieldType := [.object "MessageHub$Link", .object "java/util/ArrayList", .object "MessageHub$HeldIds", .array .int, .int, .long, .int]
def ty_3 : Nat → FieldType := fun k => tl_3.getD k .int
def ff_3 : List Value := [.null, .null, .null, .null, .int 0, .long 0, .int 0]
theorem ht_3 : ∀ k, k < 7 → parseFieldDescriptor (tc_3 k).2.2.1 = some (ty_3 k) := by decide +kernel
theorem hn_3 : ∀ a, a < 7 → ∀ b, b < 7 → a ≠ b → (tc_3 a).2.1 ≠ (tc_3 b).2.1 := by decide +kernel
theorem hf_3 : ∀ j, j < 7 → defaultValue (ty_3 j) = vp_V ff_3 j := by decide +kernel
theorem hi_3 : ∀ w ∈ u_ws rc_3 tc_3 7, w ∈ tb_T := tb_ws [112, 114, 116, 118, 120, 122, 124] (by decide +kernel) (by decide +kernel)
def rc_4 : String := "MessageHub$HeldIds"
def fl_4 : List (String × String × String × Bool) := [("MessageHub$HeldIds", "bits", "I", false)]
def tc_4 : u_T := fun k => fl_4.getD k ("", "", "", false)
def tl_4 : List FieldType := [.int]
def ty_4 : Nat → FieldType := fun k => tl_4.getD k .int
def ff_4 : List Value := [.int 0]
theorem ht_4 : ∀ k, k < 1 → parseFieldDescriptor (tc_4 k).2.2.1 = some (ty_4 k) := by decide +kernel
theorem hn_4 : ∀ a, a < 1 → ∀ b, b < 1 → a ≠ b → (tc_4 a).2.1 ≠ (tc_4 b).2.1 := by decide +kernel
theorem hf_4 : ∀ j, j < 1 → defaultValue (ty_4 j) = vp_V ff_4 j := by decide +kernel
theorem hi_4 : ∀ w ∈ u_ws rc_4 tc_4 1, w ∈ tb_T := tb_ws [101] (by decide +kernel) (by decide +kernel)
def rc_5 : String := "MessageHub$Broker"
def fl_5 : List (String × String × String × Bool) := [("MessageHub$Broker", "links", "[LMessageHub$Link;", true), ("MessageHub$Broker", "connections", "[LMessageHub$Connection;", true), ("MessageHub$Broker", "sessions", "[LMessageHub$Session;", true), ("MessageHub$Broker", "retainedMessages", "Ljava/util/ArrayList;", true), ("MessageHub$Broker", "failure", "I", false)]
def tc_5 : u_T := fun k => fl_5.getD k ("", "", "", false)
def tl_5 : List FieldType := [.array (.object "MessageHub$Link"), .array (.object "MessageHub$Connection"), .array (.object "MessageHub$Session"), .object "java/util/ArrayList", .int]
def ty_5 : Nat → FieldType := fun k => tl_5.getD k .int
def ff_5 : List Value := [.null, .null, .null, .null, .int 0]
theorem ht_5 : ∀ k, k < 5 → parseFieldDescriptor (tc_5 k).2.2.1 = some (ty_5 k) := by decide +kernel
theorem hn_5 : ∀ a, a < 5 → ∀ b, b < 5 → a ≠ b → (tc_5 a).2.1 ≠ (tc_5 b).2.1 := by decide +kernel
theorem hf_5 : ∀ j, j < 5 → defaultValue (ty_5 j) = vp_V ff_5 j := by decide +kernel
theorem hi_5 : ∀ w ∈ u_ws rc_5 tc_5 5, w ∈ tb_T := tb_ws [213, 215, 217, 219, 221] (by decide +kernel) (by decide +kernel)
def rc_6 : String := "MessageHub$Connection"
def fl_6 : List (String × String × String × Bool) := [("MessageHub$Connection", "open", "Z", false), ("MessageHub$Connection", "window", "I", false), ("MessageHub$Connection", "silence", "I", false), ("MessageHub$Connection", "keep", "I", false), ("MessageHub$Connection", "willTopic", "J", false), ("MessageHub$Connection", "willValue", "I", false)]
def tc_6 : u_T := fun k => fl_6.getD k ("", "", "", false)
def tl_6 : List FieldType := [.boolean, .int, .int, .int, .long, .int]
def ty_6 : Nat → FieldType := fun k => tl_6.getD k .int
def ff_6 : List Value := [.int 0, .int 0, .int 0, .int 0, .long 0, .int 0]
theorem ht_6 : ∀ k, k < 6 → parseFieldDescriptor (tc_6 k).2.2.1 = some (ty_6 k) := by decide +kernel
theorem hn_6 : ∀ a, a < 6 → ∀ b, b < 6 → a ≠ b → (tc_6 a).2.1 ≠ (tc_6 b).2.1 := by decide +kernel
theorem hf_6 : ∀ j, j < 6 → defaultValue (ty_6 j) = vp_V ff_6 j := by decide +kernel
theorem hi_6 : ∀ w ∈ u_ws rc_6 tc_6 6, w ∈ tb_T := tb_ws [155, 157, 159, 161, 163, 165] (by decide +kernel) (by decide +kernel)
def rc_7 : String := "MessageHub$Session"
def fl_7 : List (String × String × String × Bool) := [("MessageHub$Session", "subscriptions", "Ljava/util/ArrayList;", true), ("MessageHub$Session", "queue", "Ljava/util/ArrayList;", true), ("MessageHub$Session", "underWay", "Ljava/util/ArrayList;", true), ("MessageHub$Session", "held", "LMessageHub$HeldIds;", true), ("MessageHub$Session", "exists", "Z", false), ("MessageHub$Session", "expiry", "I", false), ("MessageHub$Session", "count", "I", false)]
def tc_7 : u_T := fun k => fl_7.getD k ("", "", "", false)
def tl_7 : List FieldType := [.object "java/util/ArrayList", .object "java/util/ArrayList", .object "java/util/ArrayList", .object "MessageHub$HeldIds", .boolean, .int, .int]
def ty_7 : Nat → FieldType := fun k => tl_7.getD k .int
def ff_7 : List Value := [.null, .null, .null, .null, .int 0, .int 0, .int 0]
theorem ht_7 : ∀ k, k < 7 → parseFieldDescriptor (tc_7 k).2.2.1 = some (ty_7 k) := by decide +kernel
theorem hn_7 : ∀ a, a < 7 → ∀ b, b < 7 → a ≠ b → (tc_7 a).2.1 ≠ (tc_7 b).2.1 := by decide +kernel
theorem hf_7 : ∀ j, j < 7 → defaultValue (ty_7 j) = vp_V ff_7 j := by decide +kernel
theorem hi_7 : ∀ w ∈ u_ws rc_7 tc_7 7, w ∈ tb_T := tb_ws [190, 192, 194, 196, 198, 200, 202] (by decide +kernel) (by decide +kernel)
def rc_8 : String := "MessageHub$Packet"
def fl_8 : List (String × String × String × Bool) := [("MessageHub$Packet", "type", "I", true), ("MessageHub$Packet", "id", "I", true), ("MessageHub$Packet", "value", "I", true), ("MessageHub$Packet", "text", "J", false), ("MessageHub$Packet", "quality", "I", false), ("MessageHub$Packet", "again", "Z", false), ("MessageHub$Packet", "mark", "Z", false), ("MessageHub$Packet", "window", "I", false), ("MessageHub$Packet", "keep", "I", false), ("MessageHub$Packet", "willValue", "I", false)]
def tc_8 : u_T := fun k => fl_8.getD k ("", "", "", false)
def tl_8 : List FieldType := [.int, .int, .int, .long, .int, .boolean, .boolean, .int, .int, .int]
def ty_8 : Nat → FieldType := fun k => tl_8.getD k .int
def ff_8 : List Value := [.int 0, .int 0, .int 0, .long 0, .int 0, .int 0, .int 0, .int 0, .int 0, .int 0]
theorem ht_8 : ∀ k, k < 10 → parseFieldDescriptor (tc_8 k).2.2.1 = some (ty_8 k) := by decide +kernel
theorem hn_8 : ∀ a, a < 10 → ∀ b, b < 10 → a ≠ b → (tc_8 a).2.1 ≠ (tc_8 b).2.1 := by decide +kernel
theorem hf_8 : ∀ j, j < 10 → defaultValue (ty_8 j) = vp_V ff_8 j := by decide +kernel
theorem hi_8 : ∀ w ∈ u_ws rc_8 tc_8 10, w ∈ tb_T := tb_ws [303, 305, 307, 309, 311, 313, 315, 317, 319, 321] (by decide +kernel) (by decide +kernel)
def rc_9 : String := "MessageHub$Message"
def fl_9 : List (String × String × String × Bool) := [("MessageHub$Message", "topic", "J", true), ("MessageHub$Message", "value", "I", true), ("MessageHub$Message", "quality", "I", true), ("MessageHub$Message", "retain", "Z", true)]
def tc_9 : u_T := fun k => fl_9.getD k ("", "", "", false)
def tl_9 : List FieldType := [.long, .int, .int, .boolean]
def ty_9 : Nat → FieldType := fun k => tl_9.getD k .int
def ff_9 : List Value := [.long 0, .int 0, .int 0, .int 0]
theorem ht_9 : ∀ k, k < 4 → parseFieldDescriptor (tc_9 k).2.2.1 = some (ty_9 k) := by decide +kernel
theorem hn_9 : ∀ a, a < 4 → ∀ b, b < 4 → a ≠ b → (tc_9 a).2.1 ≠ (tc_9 b).2.1 := by decide +kernel
theorem hf_9 : ∀ j, j < 4 → defaultValue (ty_9 j) = vp_V ff_9 j := by decide +kernel
theorem hi_9 : ∀ w ∈ u_ws rc_9 tc_9 4, w ∈ tb_T := tb_ws [461, 463, 465, 467] (by decide +kernel) (by decide +kernel)
def rc_10 : String := "MessageHub$Parcel"
def fl_10 : List (String × String × String × Bool) := [("MessageHub$Parcel", "message", "LMessageHub$Message;", true), ("MessageHub$Parcel", "stage", "I", false), ("MessageHub$Parcel", "id", "I", false)]
def tc_10 : u_T := fun k => fl_10.getD k ("", "", "", false)
def tl_10 : List FieldType := [.object "MessageHub$Message", .int, .int]
def ty_10 : Nat → FieldType := fun k => tl_10.getD k .int
def ff_10 : List Value := [.null, .int 0, .int 0]
theorem ht_10 : ∀ k, k < 3 → parseFieldDescriptor (tc_10 k).2.2.1 = some (ty_10 k) := by decide +kernel
theorem hn_10 : ∀ a, a < 3 → ∀ b, b < 3 → a ≠ b → (tc_10 a).2.1 ≠ (tc_10 b).2.1 := by decide +kernel
theorem hf_10 : ∀ j, j < 3 → defaultValue (ty_10 j) = vp_V ff_10 j := by decide +kernel
theorem hi_10 : ∀ w ∈ u_ws rc_10 tc_10 3, w ∈ tb_T := tb_ws [491, 493, 495] (by decide +kernel) (by decide +kernel)
def rc_11 : String := "MessageHub$Subscription"
def fl_11 : List (String × String × String × Bool) := [("MessageHub$Subscription", "filter", "J", true), ("MessageHub$Subscription", "quality", "I", false), ("MessageHub$Subscription", "noLocal", "Z", false)]
def tc_11 : u_T := fun k => fl_11.getD k ("", "", "", false)
def tl_11 : List FieldType := [.long, .int, .boolean]
def ty_11 : Nat → FieldType := fun k => tl_11.getD k .int
def ff_11 : List Value := [.long 0, .int 0, .int 0]
theorem ht_11 : ∀ k, k < 3 → parseFieldDescriptor (tc_11 k).2.2.1 = some (ty_11 k) := by decide +kernel
theorem hn_11 : ∀ a, a < 3 → ∀ b, b < 3 → a ≠ b → (tc_11 a).2.1 ≠ (tc_11 b).2.1 := by decide +kernel
theorem hf_11 : ∀ j, j < 3 → defaultValue (ty_11 j) = vp_V ff_11 j := by decide +kernel
theorem hi_11 : ∀ w ∈ u_ws rc_11 tc_11 3, w ∈ tb_T := tb_ws [779, 781, 783] (by decide +kernel) (by decide +kernel)
def rc_12 : String := "MessageHubModel"
def fl_12 : List (String × String × String × Bool) := [("MessageHubModel", "lineSize", "[I", true), ("MessageHubModel", "type", "[I", true), ("MessageHubModel", "id", "[I", true), ("MessageHubModel", "number", "[I", true), ("MessageHubModel", "grade", "[I", true), ("MessageHubModel", "again", "[Z", true), ("MessageHubModel", "mark", "[Z", true), ("MessageHubModel", "text", "[J", true), ("MessageHubModel", "window", "[I", true), ("MessageHubModel", "keep", "[I", true), ("MessageHubModel", "willText", "[J", true), ("MessageHubModel", "willNumber", "[I", true), ("MessageHubModel", "inType", "I", false), ("MessageHubModel", "inId", "I", false), ("MessageHubModel", "inNumber", "I", false), ("MessageHubModel", "inGrade", "I", false), ("MessageHubModel", "inMark", "Z", false), ("MessageHubModel", "inText", "J", false), ("MessageHubModel", "inWindow", "I", false), ("MessageHubModel", "inKeep", "I", false), ("MessageHubModel", "inWillText", "J", false), ("MessageHubModel", "inWillNumber", "I", false), ("MessageHubModel", "clientState", "[I", true), ("MessageHubModel", "stored", "[I", true), ("MessageHubModel", "storeText", "[J", true), ("MessageHubModel", "storeNumber", "[I", true), ("MessageHubModel", "storeGrade", "[I", true), ("MessageHubModel", "storeRetain", "[Z", true), ("MessageHubModel", "storeStage", "[I", true), ("MessageHubModel", "storeId", "[I", true), ("MessageHubModel", "clientHolds", "[Z", true), ("MessageHubModel", "inboxes", "[I", true), ("MessageHubModel", "inboxValue", "[I", true), ("MessageHubModel", "ownWillText", "[J", true), ("MessageHubModel", "ownWillNumber", "[I", true), ("MessageHubModel", "connected", "[Z", true), ("MessageHubModel", "attached", "[Z", true), ("MessageHubModel", "windowOf", "[I", true), ("MessageHubModel", "keepOf", "[I", true), ("MessageHubModel", "silence", "[I", true), ("MessageHubModel", "deathText", "[J", true), ("MessageHubModel", "deathNumber", "[I", true), ("MessageHubModel", "lives", "[Z", true), ("MessageHubModel", "subs", "[I", true), ("MessageHubModel", "subText", "[J", true), ("MessageHubModel", "subGrade", "[I", true), ("MessageHubModel", "subNoLocal", "[Z", true), ("MessageHubModel", "away", "[I", true), ("MessageHubModel", "queued", "[I", true), ("MessageHubModel", "hereText", "[J", true), ("MessageHubModel", "hereNumber", "[I", true), ("MessageHubModel", "hereGrade", "[I", true), ("MessageHubModel", "hereRetain", "[Z", true), ("MessageHubModel", "hereStage", "[I", true), ("MessageHubModel", "hereId", "[I", true), ("MessageHubModel", "brokerHolds", "[Z", true), ("MessageHubModel", "expiry", "[I", true), ("MessageHubModel", "count", "[I", true), ("MessageHubModel", "retains", "I", false), ("MessageHubModel", "keptText", "[J", true), ("MessageHubModel", "keptNumber", "[I", true), ("MessageHubModel", "keptGrade", "[I", true), ("MessageHubModel", "failure", "I", false), ("MessageHubModel", "one", "[I", true), ("MessageHubModel", "two", "[I", true)]
def tc_12 : u_T := fun k => fl_12.getD k ("", "", "", false)
def tl_12 : List FieldType := [.array .int, .array .int, .array .int, .array .int, .array .int, .array .boolean, .array .boolean, .array .long, .array .int, .array .int, .array .long, .array .int, .int, .int, .int, .int, .boolean, .long, .int, .int, .long, .int, .array .int, .array .int, .array .long, .array .int, .array .int, .array .boolean, .array .int, .array .int, .array .boolean, .array .int, .array .int, .array .long, .array .int, .array .boolean, .array .boolean, .array .int, .array .int, .array .int, .array .long, .array .int, .array .boolean, .array .int, .array .long, .array .int, .array .boolean, .array .int, .array .int, .array .long, .array .int, .array .int, .array .boolean, .array .int, .array .int, .array .boolean, .array .int, .array .int, .int, .array .long, .array .int, .array .int, .int, .array .int, .array .int]
def ty_12 : Nat → FieldType := fun k => tl_12.getD k .int
def ff_12 : List Value := [.null, .null, .null, .null, .null, .null, .null, .null, .null, .null, .null, .null, .int 0, .int 0, .int 0, .int 0, .int 0, .long 0, .int 0, .int 0, .long 0, .int 0, .null, .null, .null, .null, .null, .null, .null, .null, .null, .null, .null, .null, .null, .null, .null, .null, .null, .null, .null, .null, .null, .null, .null, .null, .null, .null, .null, .null, .null, .null, .null, .null, .null, .null, .null, .null, .int 0, .null, .null, .null, .int 0, .null, .null]
theorem ht_12 : ∀ k, k < 65 → parseFieldDescriptor (tc_12 k).2.2.1 = some (ty_12 k) := by decide +kernel
theorem hn_12 : ∀ a, a < 65 → ∀ b, b < 65 → a ≠ b → (tc_12 a).2.1 ≠ (tc_12 b).2.1 := by decide +kernel
theorem hf_12 : ∀ j, j < 65 → defaultValue (ty_12 j) = vp_V ff_12 j := by decide +kernel
theorem hi_12 : ∀ w ∈ u_ws rc_12 tc_12 65, w ∈ tb_T := tb_ws [963, 965, 967, 969, 971, 973, 975, 977, 979, 981, 983, 985, 987, 989, 991, 993, 995, 997, 999, 1001, 1003, 1005, 1007, 1009, 1011, 1013, 1015, 1017, 1019, 1021, 1023, 1025, 1027, 1029, 1031, 1033, 1035, 1037, 1039, 1041, 1043, 1045, 1047, 1049, 1051, 1053, 1055, 1057, 1059, 1061, 1063, 1065, 1067, 1069, 1071, 1073, 1075, 1077, 1079, 1081, 1083, 1085, 1087, 1089, 1091] (by decide +kernel) (by decide +kernel)
def vc_L : List vw_C := [(rc_0, tc_0, 3), (rc_1, tc_1, 4), (rc_2, tc_2, 3), (rc_3, tc_3, 7), (rc_4, tc_4, 1), (rc_5, tc_5, 5), (rc_6, tc_6, 6), (rc_7, tc_7, 7), (rc_8, tc_8, 10), (rc_9, tc_9, 4), (rc_10, tc_10, 3), (rc_11, tc_11, 3), (rc_12, tc_12, 65)]
theorem hc_0 : vc_L[0]? = some (rc_0, tc_0, 3) := rfl
theorem hc_1 : vc_L[1]? = some (rc_1, tc_1, 4) := rfl
theorem hc_2 : vc_L[2]? = some (rc_2, tc_2, 3) := rfl
theorem hc_3 : vc_L[3]? = some (rc_3, tc_3, 7) := rfl
theorem hc_4 : vc_L[4]? = some (rc_4, tc_4, 1) := rfl
theorem hc_5 : vc_L[5]? = some (rc_5, tc_5, 5) := rfl
theorem hc_6 : vc_L[6]? = some (rc_6, tc_6, 6) := rfl
theorem hc_7 : vc_L[7]? = some (rc_7, tc_7, 7) := rfl
theorem hc_8 : vc_L[8]? = some (rc_8, tc_8, 10) := rfl
theorem hc_9 : vc_L[9]? = some (rc_9, tc_9, 4) := rfl
theorem hc_10 : vc_L[10]? = some (rc_10, tc_10, 3) := rfl
theorem hc_11 : vc_L[11]? = some (rc_11, tc_11, 3) := rfl
theorem hc_12 : vc_L[12]? = some (rc_12, tc_12, 65) := rfl
def vt_L : List FieldType := [.int, .long, .boolean, .object "java/lang/Object", .object "MessageHub$Link", .object "MessageHub$Client", .object "MessageHub$Connection", .object "MessageHub$Session"]
def gw_nw : List Cond := [(Cond.arrayOver (FieldType.object "MessageHub$Link")), (Cond.arrayOver (FieldType.object "MessageHub$Client")), (Cond.methodLinkNest "MessageHub" (21 : Nat) ({ cls := "MessageHub$Link", name := "<init>", desc := "()V" } : MethodName) "MessageHub"), (Cond.methodLinkNest "MessageHub$Client" (20 : Nat) ({ cls := "MessageHub$HeldIds", name := "<init>", desc := "()V" } : MethodName) "MessageHub"), (Cond.arrayOver (FieldType.object "MessageHub$Connection")), (Cond.arrayOver (FieldType.object "MessageHub$Session")), (Cond.methodLinkNest "MessageHub$Broker" (38 : Nat) ({ cls := "MessageHub$Connection", name := "<init>", desc := "()V" } : MethodName) "MessageHub"), (Cond.methodLinkNest "MessageHub$Broker" (39 : Nat) ({ cls := "MessageHub$Session", name := "<init>", desc := "()V" } : MethodName) "MessageHub"), (Cond.methodLinkNest "MessageHub$Session" (26 : Nat) ({ cls := "MessageHub$HeldIds", name := "<init>", desc := "()V" } : MethodName) "MessageHub"), (Cond.methodLinkNest "MessageHub$Text" (33 : Nat) ({ cls := "MessageHub", name := "isWithin", desc := "(III)Z" } : MethodName) "MessageHub"), (Cond.arrayOver (FieldType.object "java/lang/Object")), (Cond.methodLinkNest "MessageHub$Client" (93 : Nat) ({ cls := "MessageHub", name := "isWithin", desc := "(III)Z" } : MethodName) "MessageHub"), (Cond.declares ({ cls := "java/lang/Object", name := "getClass", desc := "()Ljava/lang/Class;" } : MethodName)), (Cond.castable "MessageHub" "java/lang/Object"), (Cond.castable "MessageHub$Link" "java/lang/Object"), (Cond.castable "MessageHub$Client" "java/lang/Object"), (Cond.castable "MessageHub$HeldIds" "java/lang/Object"), (Cond.castable "MessageHub$Broker" "java/lang/Object"), (Cond.castable "MessageHub$Connection" "java/lang/Object"), (Cond.castable "MessageHub$Session" "java/lang/Object"), (Cond.castable "MessageHubModel" "java/lang/Object"), (Cond.castable "MessageHub$Packet" "java/lang/Object"), (Cond.castable "MessageHub$Message" "java/lang/Object"), (Cond.castable "MessageHub$Parcel" "java/lang/Object"), (Cond.castable "MessageHub$Subscription" "java/lang/Object")]
def gw_G (b Ls : Nat) (xs : Nat → Int32) (z : Nat × Nat) : Nat → (State → Prop) → Prop := fun lo O => ∀ U : State, O U → (∀ w ∈ gw_nw, va_Nw w U) ∧ (va_X b Ls xs U U.heap ∧ b < lo) ∧ va_Z "java/util/ArrayList" "DEFAULTCAPACITY_EMPTY_ELEMENTDATA" "[Ljava/lang/Object;" (.ref z.1) (fun q => lo ≤ q) U U.heap ∧ va_T (.object "java/lang/Object") z.1 0 (fun _ => .null) (fun q => lo ≤ q) U U.heap ∧ va_Mi "[Ljava/lang/Object;" z.2 U
section GW
variable {b Ls : Nat} {xs : Nat → Int32} {z : Nat × Nat}
theorem gw_o4 : ∀ (lo : Nat) (O : State → Prop) (s : State), gw_G b Ls xs z lo O → O s → va_AO "MessageHub$Link" s := fun lo O s g o => (g s o).1 (Cond.arrayOver (FieldType.object "MessageHub$Link")) (List.mem_of_getElem? (i := 0) rfl)
theorem gw_o5 : ∀ (lo : Nat) (O : State → Prop) (s : State), gw_G b Ls xs z lo O → O s → va_AO "MessageHub$Client" s := fun lo O s g o => (g s o).1 (Cond.arrayOver (FieldType.object "MessageHub$Client")) (List.mem_of_getElem? (i := 1) rfl)
theorem gw_n37 : ∀ (lo : Nat) (O : State → Prop) (s : State), gw_G b Ls xs z lo O → O s → va_Nw (Cond.methodLinkNest "MessageHub" (21 : Nat) ({ cls := "MessageHub$Link", name := "<init>", desc := "()V" } : MethodName) "MessageHub") s := fun lo O s g o => (g s o).1 _ (List.mem_of_getElem? (i := 2) rfl)
theorem gw_n96 : ∀ (lo : Nat) (O : State → Prop) (s : State), gw_G b Ls xs z lo O → O s → va_Nw (Cond.methodLinkNest "MessageHub$Client" (20 : Nat) ({ cls := "MessageHub$HeldIds", name := "<init>", desc := "()V" } : MethodName) "MessageHub") s := fun lo O s g o => (g s o).1 _ (List.mem_of_getElem? (i := 3) rfl)
theorem gw_o6 : ∀ (lo : Nat) (O : State → Prop) (s : State), gw_G b Ls xs z lo O → O s → va_AO "MessageHub$Connection" s := fun lo O s g o => (g s o).1 (Cond.arrayOver (FieldType.object "MessageHub$Connection")) (List.mem_of_getElem? (i := 4) rfl)
theorem gw_o7 : ∀ (lo : Nat) (O : State → Prop) (s : State), gw_G b Ls xs z lo O → O s → va_AO "MessageHub$Session" s := fun lo O s g o => (g s o).1 (Cond.arrayOver (FieldType.object "MessageHub$Session")) (List.mem_of_getElem? (i := 5) rfl)
theorem gw_n141 : ∀ (lo : Nat) (O : State → Prop) (s : State), gw_G b Ls xs z lo O → O s → va_Nw (Cond.methodLinkNest "MessageHub$Broker" (38 : Nat) ({ cls := "MessageHub$Connection", name := "<init>", desc := "()V" } : MethodName) "MessageHub") s := fun lo O s g o => (g s o).1 _ (List.mem_of_getElem? (i := 6) rfl)
theorem gw_n169 : ∀ (lo : Nat) (O : State → Prop) (s : State), gw_G b Ls xs z lo O → O s → va_Nw (Cond.methodLinkNest "MessageHub$Broker" (39 : Nat) ({ cls := "MessageHub$Session", name := "<init>", desc := "()V" } : MethodName) "MessageHub") s := fun lo O s g o => (g s o).1 _ (List.mem_of_getElem? (i := 7) rfl)
theorem gw_n176 : ∀ (lo : Nat) (O : State → Prop) (s : State), gw_G b Ls xs z lo O → O s → va_Nw (Cond.methodLinkNest "MessageHub$Session" (26 : Nat) ({ cls := "MessageHub$HeldIds", name := "<init>", desc := "()V" } : MethodName) "MessageHub") s := fun lo O s g o => (g s o).1 _ (List.mem_of_getElem? (i := 8) rfl)
theorem gw_n244 : ∀ (lo : Nat) (O : State → Prop) (s : State), gw_G b Ls xs z lo O → O s → va_Nw (Cond.methodLinkNest "MessageHub$Text" (33 : Nat) ({ cls := "MessageHub", name := "isWithin", desc := "(III)Z" } : MethodName) "MessageHub") s := fun lo O s g o => (g s o).1 _ (List.mem_of_getElem? (i := 9) rfl)
theorem gw_o3 : ∀ (lo : Nat) (O : State → Prop) (s : State), gw_G b Ls xs z lo O → O s → va_AO "java/lang/Object" s := fun lo O s g o => (g s o).1 (Cond.arrayOver (FieldType.object "java/lang/Object")) (List.mem_of_getElem? (i := 10) rfl)
theorem gw_n596 : ∀ (lo : Nat) (O : State → Prop) (s : State), gw_G b Ls xs z lo O → O s → va_Nw (Cond.methodLinkNest "MessageHub$Client" (93 : Nat) ({ cls := "MessageHub", name := "isWithin", desc := "(III)Z" } : MethodName) "MessageHub") s := fun lo O s g o => (g s o).1 _ (List.mem_of_getElem? (i := 11) rfl)
theorem gw_dc : ∀ (lo : Nat) (O : State → Prop) (s : State), gw_G b Ls xs z lo O → O s → va_Nw (Cond.declares ({ cls := "java/lang/Object", name := "getClass", desc := "()Ljava/lang/Class;" } : MethodName)) s := fun lo O s g o => (g s o).1 _ (List.mem_of_getElem? (i := 12) rfl)
theorem gw_c0 : ∀ (lo : Nat) (O : State → Prop) (s : State), gw_G b Ls xs z lo O → O s → va_Nw (Cond.castable "MessageHub" "java/lang/Object") s := fun lo O s g o => (g s o).1 _ (List.mem_of_getElem? (i := 13) rfl)
theorem gw_c1 : ∀ (lo : Nat) (O : State → Prop) (s : State), gw_G b Ls xs z lo O → O s → va_Nw (Cond.castable "MessageHub$Link" "java/lang/Object") s := fun lo O s g o => (g s o).1 _ (List.mem_of_getElem? (i := 14) rfl)
theorem gw_c3 : ∀ (lo : Nat) (O : State → Prop) (s : State), gw_G b Ls xs z lo O → O s → va_Nw (Cond.castable "MessageHub$Client" "java/lang/Object") s := fun lo O s g o => (g s o).1 _ (List.mem_of_getElem? (i := 15) rfl)
theorem gw_c4 : ∀ (lo : Nat) (O : State → Prop) (s : State), gw_G b Ls xs z lo O → O s → va_Nw (Cond.castable "MessageHub$HeldIds" "java/lang/Object") s := fun lo O s g o => (g s o).1 _ (List.mem_of_getElem? (i := 16) rfl)
theorem gw_c5 : ∀ (lo : Nat) (O : State → Prop) (s : State), gw_G b Ls xs z lo O → O s → va_Nw (Cond.castable "MessageHub$Broker" "java/lang/Object") s := fun lo O s g o => (g s o).1 _ (List.mem_of_getElem? (i := 17) rfl)
theorem gw_c6 : ∀ (lo : Nat) (O : State → Prop) (s : State), gw_G b Ls xs z lo O → O s → va_Nw (Cond.castable "MessageHub$Connection" "java/lang/Object") s := fun lo O s g o => (g s o).1 _ (List.mem_of_getElem? (i := 18) rfl)
theorem gw_c7 : ∀ (lo : Nat) (O : State → Prop) (s : State), gw_G b Ls xs z lo O → O s → va_Nw (Cond.castable "MessageHub$Session" "java/lang/Object") s := fun lo O s g o => (g s o).1 _ (List.mem_of_getElem? (i := 19) rfl)
theorem gw_c12 : ∀ (lo : Nat) (O : State → Prop) (s : State), gw_G b Ls xs z lo O → O s → va_Nw (Cond.castable "MessageHubModel" "java/lang/Object") s := fun lo O s g o => (g s o).1 _ (List.mem_of_getElem? (i := 20) rfl)
theorem gw_c8 : ∀ (lo : Nat) (O : State → Prop) (s : State), gw_G b Ls xs z lo O → O s → va_Nw (Cond.castable "MessageHub$Packet" "java/lang/Object") s := fun lo O s g o => (g s o).1 _ (List.mem_of_getElem? (i := 21) rfl)
theorem gw_c9 : ∀ (lo : Nat) (O : State → Prop) (s : State), gw_G b Ls xs z lo O → O s → va_Nw (Cond.castable "MessageHub$Message" "java/lang/Object") s := fun lo O s g o => (g s o).1 _ (List.mem_of_getElem? (i := 22) rfl)
theorem gw_c10 : ∀ (lo : Nat) (O : State → Prop) (s : State), gw_G b Ls xs z lo O → O s → va_Nw (Cond.castable "MessageHub$Parcel" "java/lang/Object") s := fun lo O s g o => (g s o).1 _ (List.mem_of_getElem? (i := 23) rfl)
theorem gw_c11 : ∀ (lo : Nat) (O : State → Prop) (s : State), gw_G b Ls xs z lo O → O s → va_Nw (Cond.castable "MessageHub$Subscription" "java/lang/Object") s := fun lo O s g o => (g s o).1 _ (List.mem_of_getElem? (i := 24) rfl)
theorem gw_X : ∀ (lo : Nat) (O : State → Prop) (s : State), gw_G b Ls xs z lo O → O s → va_X b Ls xs s s.heap ∧ b < lo := fun lo O s g o => (g s o).2.1
theorem gw_Z : ∀ (lo : Nat) (O : State → Prop) (s : State), gw_G b Ls xs z lo O → O s → va_Z "java/util/ArrayList" "DEFAULTCAPACITY_EMPTY_ELEMENTDATA" "[Ljava/lang/Object;" (.ref z.1) (fun q => lo ≤ q) s s.heap := fun lo O s g o => (g s o).2.2.1
theorem gw_T : ∀ (lo : Nat) (O : State → Prop) (s : State), gw_G b Ls xs z lo O → O s → va_T (.object "java/lang/Object") z.1 0 (fun _ => .null) (fun q => lo ≤ q) s s.heap := fun lo O s g o => (g s o).2.2.2.1
theorem gw_Mi : ∀ (lo : Nat) (O : State → Prop) (s : State), gw_G b Ls xs z lo O → O s → va_Mi "[Ljava/lang/Object;" z.2 s := fun lo O s g o => (g s o).2.2.2.2
theorem gw_Mc : ∀ (lo : Nat) (O : State → Prop) (s : State), gw_G b Ls xs z lo O → O s → va_Mi "[Ljava/lang/Object;" z.2 s ∧ va_Nw (.declares ⟨"java/lang/Object", "getClass", "()Ljava/lang/Class;"⟩) s := fun lo O s g o => ⟨(g s o).2.2.2.2, gw_dc lo O s g o⟩
def gw_cs : List Nat := [0, 1, 3, 4, 5, 6, 7, 8, 9, 10, 11, 12]
theorem gw_csO : ∀ ci ∈ gw_cs, ∃ (C : String) (T : u_T) (N : Nat), vc_L[ci]? = some (C, T, N) ∧ (C = "java/lang/Object" ∨ ∀ (lo : Nat) (O : State → Prop) (s : State), gw_G b Ls xs z lo O → O s → va_Nw (.castable C "java/lang/Object") s) := by
  intro ci h
  simp only [gw_cs, List.mem_cons, List.not_mem_nil, or_false] at h
  rcases h with rfl | rfl | rfl | rfl | rfl | rfl | rfl | rfl | rfl | rfl | rfl | rfl
  · exact ⟨_, _, _, hc_0, Or.inr gw_c0⟩
  · exact ⟨_, _, _, hc_1, Or.inr gw_c1⟩
  · exact ⟨_, _, _, hc_3, Or.inr gw_c3⟩
  · exact ⟨_, _, _, hc_4, Or.inr gw_c4⟩
  · exact ⟨_, _, _, hc_5, Or.inr gw_c5⟩
  · exact ⟨_, _, _, hc_6, Or.inr gw_c6⟩
  · exact ⟨_, _, _, hc_7, Or.inr gw_c7⟩
  · exact ⟨_, _, _, hc_8, Or.inr gw_c8⟩
  · exact ⟨_, _, _, hc_9, Or.inr gw_c9⟩
  · exact ⟨_, _, _, hc_10, Or.inr gw_c10⟩
  · exact ⟨_, _, _, hc_11, Or.inr gw_c11⟩
  · exact ⟨_, _, _, hc_12, Or.inr gw_c12⟩
def gw_ast (t ci : Nat) : Bool := (t == 3 && gw_cs.contains ci) || (t == 4 && ci == 1) || (t == 5 && ci == 3) || (t == 6 && ci == 6) || (t == 7 && ci == 7)
variable {l : Launch} {cc : ByteArray} {nL : Nat} {ret : Option FieldType} {nm own : String} {d wd pc : Nat}
theorem ev_union {G : Nat → (State → Prop) → Prop} {cl : List vw_C} {tyL : List FieldType} {Ts : List Cond} {op : ev_Op} (h : ∀ L stk hh x, op L stk hh x → ∃ op', ev_Good l cl tyL G cc nL ret nm own Ts d wd pc op' ∧ op' L stk hh x) : ev_Good l cl tyL G cc nL ret nm own Ts d wd pc op := by
  refine ⟨fun L stk hh => ⟨fun st' e1 => ?_, fun o e1 => ?_⟩, fun p e R s m args below meth c D cA lo O b0 oE X => ⟨fun L stk hh g1 g2 Q st' e1 r1 r2 k => ?_, fun L stk hh g1 g2 e1 => ?_⟩⟩
  · obtain ⟨op', g, e2⟩ := h L stk hh _ e1
    exact (g.1 L stk hh).1 st' e2
  · obtain ⟨op', g, e2⟩ := h L stk hh _ e1
    exact (g.1 L stk hh).2 o e2
  · obtain ⟨op', g, e2⟩ := h L stk hh _ e1
    exact (g.2 p e R s m args below meth c D cA lo O b0 oE X).1 L stk hh g1 g2 Q st' e2 r1 r2 k
  · obtain ⟨op', g, e2⟩ := h L stk hh _ e1
    exact (g.2 p e R s m args below meth c D cA lo O b0 oE X).2 L stk hh g1 g2 e2
def ev_aaldR (nx : Nat) : ev_Fn := fun L stk h => match stk with
  | .int i :: .ref a :: r => match h.2.2 a with
    | some (.inl (t, n, .inr (.inr (.inr (.inr f))))) => if (3 ≤ t ∧ t < 8) ∧ ¬ (i < 0 ∨ n ≤ i.toNatClampNeg) then some (.inl (nx, L, va_rf (f i.toNatClampNeg) :: r, h)) else none
    | _ => none
  | _ => none
theorem ok_aaldR {G : Nat → (State → Prop) → Prop} {cl : List vw_C} {Ts : List Cond} (hd : decode cc pc = .ok (.aaload, 1)) : ev_Good l cl vt_L G cc nL ret nm own Ts d wd pc (ev_fn (ev_aaldR (pc + 1))) := by
  refine ev_union fun L stk h x hx => ?_
  have hx' := hx
  unfold ev_fn ev_aaldR at hx
  split at hx
  · rename_i i a r
    split at hx
    · rename_i t n0 f hf
      split at hx
      · rename_i hg
        obtain ⟨C, hC⟩ : ∃ C, vt_L[t]? = some (.object C) := by
          rcases (show t = 3 ∨ t = 4 ∨ t = 5 ∨ t = 6 ∨ t = 7 by omega) with rfl | rfl | rfl | rfl | rfl <;> exact ⟨_, rfl⟩
        refine ⟨ev_fn (ev_aaldT t (pc + 1)), ok_aaldT hC hd, ?_⟩
        show ev_aaldT t (pc + 1) L _ h = some x
        simp only [ev_aaldT, hf, hg.2, and_true, if_true, not_false_eq_true]
        exact hx
      · cases hx
    · cases hx
  · cases hx
def ev_aastR (nx : Nat) : ev_Fn := fun L stk h => match stk with
  | .ref v :: .int i :: .ref a :: r => match h.2.2 a, h.2.2 v with
    | some (.inl (t, n, .inr (.inr (.inr (.inr f))))), some (.inr (ci, _)) => if gw_ast t ci = true ∧ ¬ (i < 0 ∨ n ≤ i.toNatClampNeg) then some (.inl (nx, L, r, ev_put h a (.inl (t, n, .inr (.inr (.inr (.inr (va_up f i.toNatClampNeg (some v)))))))) ) else none
    | _, _ => none
  | .null :: .int i :: .ref a :: r => match h.2.2 a with
    | some (.inl (t, n, .inr (.inr (.inr (.inr f))))) => if (3 ≤ t ∧ t < 8) ∧ ¬ (i < 0 ∨ n ≤ i.toNatClampNeg) then some (.inl (nx, L, r, ev_put h a (.inl (t, n, .inr (.inr (.inr (.inr (va_up f i.toNatClampNeg none)))))))) else none
    | _ => none
  | _ => none
theorem gw_ast_ok {t ci : Nat} (h : gw_ast t ci = true) : ∃ (E C : String) (T : u_T) (N : Nat), vt_L[t]? = some (.object E) ∧ vc_L[ci]? = some (C, T, N) ∧ (C = E ∨ ∀ (lo : Nat) (O : State → Prop) (s : State), gw_G b Ls xs z lo O → O s → va_Nw (.castable C E) s) := by
  simp only [gw_ast, Bool.or_eq_true, Bool.and_eq_true, beq_iff_eq] at h
  rcases h with (((⟨rfl, h⟩ | ⟨rfl, rfl⟩) | ⟨rfl, rfl⟩) | ⟨rfl, rfl⟩) | ⟨rfl, rfl⟩
  · obtain ⟨C, T, N, h1, h2⟩ := gw_csO (b := b) (Ls := Ls) (xs := xs) (z := z) ci (by simpa using h)
    exact ⟨_, C, T, N, rfl, h1, h2⟩
  · exact ⟨_, _, _, _, rfl, hc_1, Or.inl rfl⟩
  · exact ⟨_, _, _, _, rfl, hc_3, Or.inl rfl⟩
  · exact ⟨_, _, _, _, rfl, hc_6, Or.inl rfl⟩
  · exact ⟨_, _, _, _, rfl, hc_7, Or.inl rfl⟩
theorem ok_aastR {Ts : List Cond} (hd : decode cc pc = .ok (.aastore, 1)) : ev_Good l vc_L vt_L (gw_G b Ls xs z) cc nL ret nm own Ts d wd pc (ev_fn (ev_aastR (pc + 1))) := by
  refine ev_union fun L stk h x hx => ?_
  unfold ev_fn ev_aastR at hx
  split at hx
  · rename_i v i a r
    split at hx
    · rename_i t n0 f ci fs hf hv
      split at hx
      · rename_i hg
        obtain ⟨E, C, T, N, h1, h2, h3⟩ := gw_ast_ok (b := b) (Ls := Ls) (xs := xs) (z := z) hg.1
        refine ⟨ev_fn (ev_aast t [ci] (pc + 1)), ok_aast h1 (fun c hc => ?_) hd, ?_⟩
        · obtain rfl := List.mem_singleton.mp hc
          exact ⟨C, T, N, h2, h3⟩
        · show ev_aast t [ci] (pc + 1) L _ h = some x
          simp only [ev_aast, hf, hv, hg.2, List.contains_cons, List.contains_nil, Bool.or_false, beq_self_eq_true, and_true, if_true, not_false_eq_true]
          exact hx
      · cases hx
    · cases hx
  · rename_i i a r
    split at hx
    · rename_i t n0 f hf
      split at hx
      · rename_i hg
        obtain ⟨C, hC⟩ : ∃ C, vt_L[t]? = some (.object C) := by
          rcases (show t = 3 ∨ t = 4 ∨ t = 5 ∨ t = 6 ∨ t = 7 by omega) with rfl | rfl | rfl | rfl | rfl <;> exact ⟨_, rfl⟩
        refine ⟨ev_fn (ev_aast t [] (pc + 1)), ok_aast hC (fun c hc => by cases hc) hd, ?_⟩
        show ev_aast t [] (pc + 1) L _ h = some x
        simp only [ev_aast, hf, hg.2, and_true, if_true, not_false_eq_true]
        exact hx
      · cases hx
    · cases hx
  · cases hx
end GW
end
section
/-! Words, one by one (written by wip/whole/gen.py). -/
theorem tw_ai : Cond.arrayClass (newarray.typeOf .int) ∈ tb_T := tb_in (i := 127) (by decide +kernel) (by decide +kernel)
theorem tw_al : Cond.arrayClass (newarray.typeOf .long) ∈ tb_T := tb_in (i := 1095) (by decide +kernel) (by decide +kernel)
theorem tw_az : Cond.arrayClass (newarray.typeOf .boolean) ∈ tb_T := tb_in (i := 1094) (by decide +kernel) (by decide +kernel)
theorem tw_1 : (Cond.initialized "MessageHub") ∈ tb_T := tb_in (i := 1) (by decide +kernel) (by decide +kernel)
theorem tw_2 : (Cond.initialized "MessageHub$Link") ∈ tb_T := tb_in (i := 2) (by decide +kernel) (by decide +kernel)
theorem tw_3 : (Cond.initialized "java/util/AbstractCollection") ∈ tb_T := tb_in (i := 3) (by decide +kernel) (by decide +kernel)
theorem tw_4 : (Cond.initialized "java/util/AbstractList") ∈ tb_T := tb_in (i := 4) (by decide +kernel) (by decide +kernel)
theorem tw_5 : (Cond.initialized "java/util/ArrayList") ∈ tb_T := tb_in (i := 5) (by decide +kernel) (by decide +kernel)
theorem tw_6 : (Cond.initialized "MessageHub$Client") ∈ tb_T := tb_in (i := 6) (by decide +kernel) (by decide +kernel)
theorem tw_7 : (Cond.initialized "MessageHub$HeldIds") ∈ tb_T := tb_in (i := 7) (by decide +kernel) (by decide +kernel)
theorem tw_8 : (Cond.initialized "MessageHub$Broker") ∈ tb_T := tb_in (i := 8) (by decide +kernel) (by decide +kernel)
theorem tw_9 : (Cond.initialized "MessageHub$Connection") ∈ tb_T := tb_in (i := 9) (by decide +kernel) (by decide +kernel)
theorem tw_10 : (Cond.initialized "MessageHub$Session") ∈ tb_T := tb_in (i := 10) (by decide +kernel) (by decide +kernel)
theorem tw_11 : (Cond.initialized "MessageHubModel") ∈ tb_T := tb_in (i := 11) (by decide +kernel) (by decide +kernel)
theorem tw_12 : (Cond.initialized "MessageHub$Text") ∈ tb_T := tb_in (i := 12) (by decide +kernel) (by decide +kernel)
theorem tw_13 : (Cond.initialized "MessageHub$Packet") ∈ tb_T := tb_in (i := 13) (by decide +kernel) (by decide +kernel)
theorem tw_14 : (Cond.initialized "jdk/internal/util/ArraysSupport") ∈ tb_T := tb_in (i := 14) (by decide +kernel) (by decide +kernel)
theorem tw_15 : (Cond.initialized "java/lang/Math") ∈ tb_T := tb_in (i := 15) (by decide +kernel) (by decide +kernel)
theorem tw_16 : (Cond.initialized "java/util/Arrays") ∈ tb_T := tb_in (i := 16) (by decide +kernel) (by decide +kernel)
theorem tw_17 : (Cond.initialized "java/lang/System") ∈ tb_T := tb_in (i := 17) (by decide +kernel) (by decide +kernel)
theorem tw_18 : (Cond.initialized "MessageHub$Message") ∈ tb_T := tb_in (i := 18) (by decide +kernel) (by decide +kernel)
theorem tw_19 : (Cond.initialized "MessageHub$Parcel") ∈ tb_T := tb_in (i := 19) (by decide +kernel) (by decide +kernel)
theorem tw_20 : (Cond.initialized "java/util/Objects") ∈ tb_T := tb_in (i := 20) (by decide +kernel) (by decide +kernel)
theorem tw_21 : (Cond.initialized "jdk/internal/util/Preconditions") ∈ tb_T := tb_in (i := 21) (by decide +kernel) (by decide +kernel)
theorem tw_22 : (Cond.initialized "MessageHub$Subscription") ∈ tb_T := tb_in (i := 22) (by decide +kernel) (by decide +kernel)
theorem tw_23 : (Cond.initialized "java/lang/Integer") ∈ tb_T := tb_in (i := 23) (by decide +kernel) (by decide +kernel)
theorem tw_24 : (Cond.classLink "MessageHubLaw" (7 : Nat) "MessageHub") ∈ tb_T := tb_in (i := 24) (by decide +kernel) (by decide +kernel)
theorem tw_25 : (Cond.instantiable "MessageHub" (3 : Nat)) ∈ tb_T := tb_in (i := 25) (by decide +kernel) (by decide +kernel)
theorem tw_26 : (Cond.methodLink "MessageHubLaw" (9 : Nat) ({ cls := "MessageHub", name := "<init>", desc := "()V" } : MethodName)) ∈ tb_T := tb_in (i := 26) (by decide +kernel) (by decide +kernel)
theorem tw_27 : (Cond.instanceMethod ({ cls := "MessageHub", name := "<init>", desc := "()V" } : MethodName)) ∈ tb_T := tb_in (i := 27) (by decide +kernel) (by decide +kernel)
theorem tw_28 : (Cond.code ({ cls := "MessageHub", name := "<init>", desc := "()V" } : MethodName) prog_1_method_1_code (2 : Nat) (Option.none : Option FieldType)) ∈ tb_T := tb_in (i := 28) (by decide +kernel) (by decide +kernel)
theorem tw_29 : (Cond.methodLink "MessageHub" (1 : Nat) ({ cls := "java/lang/Object", name := "<init>", desc := "()V" } : MethodName)) ∈ tb_T := tb_in (i := 29) (by decide +kernel) (by decide +kernel)
theorem tw_30 : (Cond.instanceMethod ({ cls := "java/lang/Object", name := "<init>", desc := "()V" } : MethodName)) ∈ tb_T := tb_in (i := 30) (by decide +kernel) (by decide +kernel)
theorem tw_31 : (Cond.code ({ cls := "java/lang/Object", name := "<init>", desc := "()V" } : MethodName) object_method_1_code (1 : Nat) (Option.none : Option FieldType)) ∈ tb_T := tb_in (i := 31) (by decide +kernel) (by decide +kernel)
theorem tw_32 : (Cond.classLink "MessageHub" (9 : Nat) "MessageHub$Link") ∈ tb_T := tb_in (i := 32) (by decide +kernel) (by decide +kernel)
theorem tw_34 : (Cond.classLink "MessageHub" (15 : Nat) "MessageHub$Client") ∈ tb_T := tb_in (i := 34) (by decide +kernel) (by decide +kernel)
theorem tw_36 : (Cond.instantiable "MessageHub$Link" (4 : Nat)) ∈ tb_T := tb_in (i := 36) (by decide +kernel) (by decide +kernel)
theorem tw_38 : (Cond.instanceMethod ({ cls := "MessageHub$Link", name := "<init>", desc := "()V" } : MethodName)) ∈ tb_T := tb_in (i := 38) (by decide +kernel) (by decide +kernel)
theorem tw_39 : (Cond.code ({ cls := "MessageHub$Link", name := "<init>", desc := "()V" } : MethodName) prog_6_method_1_code (1 : Nat) (Option.none : Option FieldType)) ∈ tb_T := tb_in (i := 39) (by decide +kernel) (by decide +kernel)
theorem tw_40 : (Cond.methodLink "MessageHub$Link" (3 : Nat) ({ cls := "java/lang/Object", name := "<init>", desc := "()V" } : MethodName)) ∈ tb_T := tb_in (i := 40) (by decide +kernel) (by decide +kernel)
theorem tw_41 : (Cond.classLink "MessageHub$Link" (9 : Nat) "java/util/ArrayList") ∈ tb_T := tb_in (i := 41) (by decide +kernel) (by decide +kernel)
theorem tw_42 : (Cond.instantiable "java/util/ArrayList" (3 : Nat)) ∈ tb_T := tb_in (i := 42) (by decide +kernel) (by decide +kernel)
theorem tw_43 : (Cond.methodLink "MessageHub$Link" (11 : Nat) ({ cls := "java/util/ArrayList", name := "<init>", desc := "()V" } : MethodName)) ∈ tb_T := tb_in (i := 43) (by decide +kernel) (by decide +kernel)
theorem tw_44 : (Cond.instanceMethod ({ cls := "java/util/ArrayList", name := "<init>", desc := "()V" } : MethodName)) ∈ tb_T := tb_in (i := 44) (by decide +kernel) (by decide +kernel)
theorem tw_45 : (Cond.code ({ cls := "java/util/ArrayList", name := "<init>", desc := "()V" } : MethodName) prog_23_method_2_code (1 : Nat) (Option.none : Option FieldType)) ∈ tb_T := tb_in (i := 45) (by decide +kernel) (by decide +kernel)
theorem tw_46 : (Cond.methodLink "java/util/ArrayList" (1 : Nat) ({ cls := "java/util/AbstractList", name := "<init>", desc := "()V" } : MethodName)) ∈ tb_T := tb_in (i := 46) (by decide +kernel) (by decide +kernel)
theorem tw_47 : (Cond.instanceMethod ({ cls := "java/util/AbstractList", name := "<init>", desc := "()V" } : MethodName)) ∈ tb_T := tb_in (i := 47) (by decide +kernel) (by decide +kernel)
theorem tw_48 : (Cond.code ({ cls := "java/util/AbstractList", name := "<init>", desc := "()V" } : MethodName) prog_22_method_1_code (1 : Nat) (Option.none : Option FieldType)) ∈ tb_T := tb_in (i := 48) (by decide +kernel) (by decide +kernel)
theorem tw_49 : (Cond.methodLink "java/util/AbstractList" (1 : Nat) ({ cls := "java/util/AbstractCollection", name := "<init>", desc := "()V" } : MethodName)) ∈ tb_T := tb_in (i := 49) (by decide +kernel) (by decide +kernel)
theorem tw_50 : (Cond.instanceMethod ({ cls := "java/util/AbstractCollection", name := "<init>", desc := "()V" } : MethodName)) ∈ tb_T := tb_in (i := 50) (by decide +kernel) (by decide +kernel)
theorem tw_51 : (Cond.code ({ cls := "java/util/AbstractCollection", name := "<init>", desc := "()V" } : MethodName) prog_21_method_1_code (1 : Nat) (Option.none : Option FieldType)) ∈ tb_T := tb_in (i := 51) (by decide +kernel) (by decide +kernel)
theorem tw_52 : (Cond.methodLink "java/util/AbstractCollection" (1 : Nat) ({ cls := "java/lang/Object", name := "<init>", desc := "()V" } : MethodName)) ∈ tb_T := tb_in (i := 52) (by decide +kernel) (by decide +kernel)
theorem tw_53 : (Cond.fieldLink "java/util/ArrayList" (39 : Nat) "java/util/ArrayList" "DEFAULTCAPACITY_EMPTY_ELEMENTDATA" "[Ljava/lang/Object;") ∈ tb_T := tb_in (i := 53) (by decide +kernel) (by decide +kernel)
theorem tw_55 : (Cond.fieldLink "java/util/ArrayList" (9 : Nat) "java/util/ArrayList" "elementData" "[Ljava/lang/Object;") ∈ tb_T := tb_in (i := 55) (by decide +kernel) (by decide +kernel)
theorem tw_56 : (Cond.fieldLink "java/util/ArrayList" (48 : Nat) "java/util/ArrayList" "size" "I") ∈ tb_T := tb_in (i := 56) (by decide +kernel) (by decide +kernel)
theorem tw_57 : (Cond.fieldLink "java/util/AbstractList" (7 : Nat) "java/util/AbstractList" "modCount" "I") ∈ tb_T := tb_in (i := 57) (by decide +kernel) (by decide +kernel)
theorem tw_58 : (Cond.fieldLink "java/util/ArrayList" (63 : Nat) "java/util/ArrayList" "modCount" "I") ∈ tb_T := tb_in (i := 58) (by decide +kernel) (by decide +kernel)
theorem tw_59 : (Cond.sameField "java/util/ArrayList" "java/util/AbstractList" "modCount" "I") ∈ tb_T := tb_in (i := 59) (by decide +kernel) (by decide +kernel)
theorem tw_67 : (Cond.fieldLink "MessageHub$Link" (12 : Nat) "MessageHub$Link" "up" "Ljava/util/ArrayList;") ∈ tb_T := tb_in (i := 67) (by decide +kernel) (by decide +kernel)
theorem tw_68 : (Cond.fieldLink "MessageHub$Client" (46 : Nat) "MessageHub$Link" "up" "Ljava/util/ArrayList;") ∈ tb_T := tb_in (i := 68) (by decide +kernel) (by decide +kernel)
theorem tw_69 : (Cond.fieldLink "MessageHub" (70 : Nat) "MessageHub$Link" "up" "Ljava/util/ArrayList;") ∈ tb_T := tb_in (i := 69) (by decide +kernel) (by decide +kernel)
theorem tw_70 : (Cond.fieldLink "MessageHub$Link" (18 : Nat) "MessageHub$Link" "down" "Ljava/util/ArrayList;") ∈ tb_T := tb_in (i := 70) (by decide +kernel) (by decide +kernel)
theorem tw_71 : (Cond.fieldLink "MessageHub$Broker" (137 : Nat) "MessageHub$Link" "down" "Ljava/util/ArrayList;") ∈ tb_T := tb_in (i := 71) (by decide +kernel) (by decide +kernel)
theorem tw_72 : (Cond.fieldLink "MessageHub$Link" (21 : Nat) "MessageHub$Link" "state" "I") ∈ tb_T := tb_in (i := 72) (by decide +kernel) (by decide +kernel)
theorem tw_73 : (Cond.fieldLink "MessageHub$Client" (41 : Nat) "MessageHub$Link" "state" "I") ∈ tb_T := tb_in (i := 73) (by decide +kernel) (by decide +kernel)
theorem tw_74 : (Cond.fieldLink "MessageHub" (52 : Nat) "MessageHub$Link" "state" "I") ∈ tb_T := tb_in (i := 74) (by decide +kernel) (by decide +kernel)
theorem tw_75 : (Cond.fieldLink "MessageHub$Link" (28 : Nat) "MessageHub$Link" "attached" "Z") ∈ tb_T := tb_in (i := 75) (by decide +kernel) (by decide +kernel)
theorem tw_76 : (Cond.fieldLink "MessageHub$Broker" (134 : Nat) "MessageHub$Link" "attached" "Z") ∈ tb_T := tb_in (i := 76) (by decide +kernel) (by decide +kernel)
theorem tw_77 : (Cond.fieldLink "MessageHub" (156 : Nat) "MessageHub$Link" "attached" "Z") ∈ tb_T := tb_in (i := 77) (by decide +kernel) (by decide +kernel)
theorem tw_87 : (Cond.instantiable "MessageHub$Client" (7 : Nat)) ∈ tb_T := tb_in (i := 87) (by decide +kernel) (by decide +kernel)
theorem tw_88 : (Cond.methodLink "MessageHub" (22 : Nat) ({ cls := "MessageHub$Client", name := "<init>", desc := "(LMessageHub$Link;)V" } : MethodName)) ∈ tb_T := tb_in (i := 88) (by decide +kernel) (by decide +kernel)
theorem tw_89 : (Cond.instanceMethod ({ cls := "MessageHub$Client", name := "<init>", desc := "(LMessageHub$Link;)V" } : MethodName)) ∈ tb_T := tb_in (i := 89) (by decide +kernel) (by decide +kernel)
theorem tw_90 : (Cond.code ({ cls := "MessageHub$Client", name := "<init>", desc := "(LMessageHub$Link;)V" } : MethodName) prog_3_method_1_code (2 : Nat) (Option.none : Option FieldType)) ∈ tb_T := tb_in (i := 90) (by decide +kernel) (by decide +kernel)
theorem tw_91 : (Cond.methodLink "MessageHub$Client" (3 : Nat) ({ cls := "java/lang/Object", name := "<init>", desc := "()V" } : MethodName)) ∈ tb_T := tb_in (i := 91) (by decide +kernel) (by decide +kernel)
theorem tw_92 : (Cond.classLink "MessageHub$Client" (9 : Nat) "java/util/ArrayList") ∈ tb_T := tb_in (i := 92) (by decide +kernel) (by decide +kernel)
theorem tw_93 : (Cond.methodLink "MessageHub$Client" (11 : Nat) ({ cls := "java/util/ArrayList", name := "<init>", desc := "()V" } : MethodName)) ∈ tb_T := tb_in (i := 93) (by decide +kernel) (by decide +kernel)
theorem tw_94 : (Cond.classLink "MessageHub$Client" (18 : Nat) "MessageHub$HeldIds") ∈ tb_T := tb_in (i := 94) (by decide +kernel) (by decide +kernel)
theorem tw_95 : (Cond.instantiable "MessageHub$HeldIds" (1 : Nat)) ∈ tb_T := tb_in (i := 95) (by decide +kernel) (by decide +kernel)
theorem tw_97 : (Cond.instanceMethod ({ cls := "MessageHub$HeldIds", name := "<init>", desc := "()V" } : MethodName)) ∈ tb_T := tb_in (i := 97) (by decide +kernel) (by decide +kernel)
theorem tw_98 : (Cond.code ({ cls := "MessageHub$HeldIds", name := "<init>", desc := "()V" } : MethodName) prog_5_method_1_code (1 : Nat) (Option.none : Option FieldType)) ∈ tb_T := tb_in (i := 98) (by decide +kernel) (by decide +kernel)
theorem tw_99 : (Cond.methodLink "MessageHub$HeldIds" (1 : Nat) ({ cls := "java/lang/Object", name := "<init>", desc := "()V" } : MethodName)) ∈ tb_T := tb_in (i := 99) (by decide +kernel) (by decide +kernel)
theorem tw_100 : (Cond.fieldLink "MessageHub$HeldIds" (7 : Nat) "MessageHub$HeldIds" "bits" "I") ∈ tb_T := tb_in (i := 100) (by decide +kernel) (by decide +kernel)
theorem tw_104 : (Cond.fieldLink "MessageHub$Client" (29 : Nat) "MessageHub$Client" "link" "LMessageHub$Link;") ∈ tb_T := tb_in (i := 104) (by decide +kernel) (by decide +kernel)
theorem tw_105 : (Cond.fieldLink "MessageHub$Client" (12 : Nat) "MessageHub$Client" "store" "Ljava/util/ArrayList;") ∈ tb_T := tb_in (i := 105) (by decide +kernel) (by decide +kernel)
theorem tw_106 : (Cond.fieldLink "MessageHub" (188 : Nat) "MessageHub$Client" "store" "Ljava/util/ArrayList;") ∈ tb_T := tb_in (i := 106) (by decide +kernel) (by decide +kernel)
theorem tw_107 : (Cond.fieldLink "MessageHub$Client" (21 : Nat) "MessageHub$Client" "held" "LMessageHub$HeldIds;") ∈ tb_T := tb_in (i := 107) (by decide +kernel) (by decide +kernel)
theorem tw_108 : (Cond.fieldLink "MessageHub$Client" (25 : Nat) "MessageHub$Client" "inbox" "[I") ∈ tb_T := tb_in (i := 108) (by decide +kernel) (by decide +kernel)
theorem tw_109 : (Cond.fieldLink "MessageHub$Client" (90 : Nat) "MessageHub$Client" "inboxCount" "I") ∈ tb_T := tb_in (i := 109) (by decide +kernel) (by decide +kernel)
theorem tw_110 : (Cond.fieldLink "MessageHub$Client" (33 : Nat) "MessageHub$Client" "willTopic" "J") ∈ tb_T := tb_in (i := 110) (by decide +kernel) (by decide +kernel)
theorem tw_111 : (Cond.fieldLink "MessageHub$Client" (37 : Nat) "MessageHub$Client" "willValue" "I") ∈ tb_T := tb_in (i := 111) (by decide +kernel) (by decide +kernel)
theorem tw_128 : (Cond.classLink "MessageHub" (25 : Nat) "MessageHub$Broker") ∈ tb_T := tb_in (i := 128) (by decide +kernel) (by decide +kernel)
theorem tw_129 : (Cond.instantiable "MessageHub$Broker" (5 : Nat)) ∈ tb_T := tb_in (i := 129) (by decide +kernel) (by decide +kernel)
theorem tw_130 : (Cond.methodLink "MessageHub" (27 : Nat) ({ cls := "MessageHub$Broker", name := "<init>", desc := "([LMessageHub$Link;)V" } : MethodName)) ∈ tb_T := tb_in (i := 130) (by decide +kernel) (by decide +kernel)
theorem tw_131 : (Cond.instanceMethod ({ cls := "MessageHub$Broker", name := "<init>", desc := "([LMessageHub$Link;)V" } : MethodName)) ∈ tb_T := tb_in (i := 131) (by decide +kernel) (by decide +kernel)
theorem tw_132 : (Cond.code ({ cls := "MessageHub$Broker", name := "<init>", desc := "([LMessageHub$Link;)V" } : MethodName) prog_2_method_1_code (3 : Nat) (Option.none : Option FieldType)) ∈ tb_T := tb_in (i := 132) (by decide +kernel) (by decide +kernel)
theorem tw_133 : (Cond.methodLink "MessageHub$Broker" (3 : Nat) ({ cls := "java/lang/Object", name := "<init>", desc := "()V" } : MethodName)) ∈ tb_T := tb_in (i := 133) (by decide +kernel) (by decide +kernel)
theorem tw_134 : (Cond.classLink "MessageHub$Broker" (9 : Nat) "MessageHub$Connection") ∈ tb_T := tb_in (i := 134) (by decide +kernel) (by decide +kernel)
theorem tw_136 : (Cond.classLink "MessageHub$Broker" (17 : Nat) "MessageHub$Session") ∈ tb_T := tb_in (i := 136) (by decide +kernel) (by decide +kernel)
theorem tw_138 : (Cond.classLink "MessageHub$Broker" (23 : Nat) "java/util/ArrayList") ∈ tb_T := tb_in (i := 138) (by decide +kernel) (by decide +kernel)
theorem tw_139 : (Cond.methodLink "MessageHub$Broker" (25 : Nat) ({ cls := "java/util/ArrayList", name := "<init>", desc := "()V" } : MethodName)) ∈ tb_T := tb_in (i := 139) (by decide +kernel) (by decide +kernel)
theorem tw_140 : (Cond.instantiable "MessageHub$Connection" (6 : Nat)) ∈ tb_T := tb_in (i := 140) (by decide +kernel) (by decide +kernel)
theorem tw_142 : (Cond.instanceMethod ({ cls := "MessageHub$Connection", name := "<init>", desc := "()V" } : MethodName)) ∈ tb_T := tb_in (i := 142) (by decide +kernel) (by decide +kernel)
theorem tw_143 : (Cond.code ({ cls := "MessageHub$Connection", name := "<init>", desc := "()V" } : MethodName) prog_4_method_1_code (1 : Nat) (Option.none : Option FieldType)) ∈ tb_T := tb_in (i := 143) (by decide +kernel) (by decide +kernel)
theorem tw_144 : (Cond.methodLink "MessageHub$Connection" (1 : Nat) ({ cls := "java/lang/Object", name := "<init>", desc := "()V" } : MethodName)) ∈ tb_T := tb_in (i := 144) (by decide +kernel) (by decide +kernel)
theorem tw_145 : (Cond.fieldLink "MessageHub$Connection" (7 : Nat) "MessageHub$Connection" "open" "Z") ∈ tb_T := tb_in (i := 145) (by decide +kernel) (by decide +kernel)
theorem tw_146 : (Cond.fieldLink "MessageHub$Broker" (40 : Nat) "MessageHub$Connection" "open" "Z") ∈ tb_T := tb_in (i := 146) (by decide +kernel) (by decide +kernel)
theorem tw_147 : (Cond.fieldLink "MessageHub" (150 : Nat) "MessageHub$Connection" "open" "Z") ∈ tb_T := tb_in (i := 147) (by decide +kernel) (by decide +kernel)
theorem tw_148 : (Cond.fieldLink "MessageHub$Connection" (19 : Nat) "MessageHub$Connection" "window" "I") ∈ tb_T := tb_in (i := 148) (by decide +kernel) (by decide +kernel)
theorem tw_149 : (Cond.fieldLink "MessageHub$Broker" (268 : Nat) "MessageHub$Connection" "window" "I") ∈ tb_T := tb_in (i := 149) (by decide +kernel) (by decide +kernel)
theorem tw_150 : (Cond.fieldLink "MessageHub$Connection" (20 : Nat) "MessageHub$Connection" "silence" "I") ∈ tb_T := tb_in (i := 150) (by decide +kernel) (by decide +kernel)
theorem tw_151 : (Cond.fieldLink "MessageHub$Broker" (76 : Nat) "MessageHub$Connection" "silence" "I") ∈ tb_T := tb_in (i := 151) (by decide +kernel) (by decide +kernel)
theorem tw_152 : (Cond.fieldLink "MessageHub$Connection" (26 : Nat) "MessageHub$Connection" "keep" "I") ∈ tb_T := tb_in (i := 152) (by decide +kernel) (by decide +kernel)
theorem tw_153 : (Cond.fieldLink "MessageHub$Connection" (31 : Nat) "MessageHub$Connection" "willTopic" "J") ∈ tb_T := tb_in (i := 153) (by decide +kernel) (by decide +kernel)
theorem tw_154 : (Cond.fieldLink "MessageHub$Connection" (37 : Nat) "MessageHub$Connection" "willValue" "I") ∈ tb_T := tb_in (i := 154) (by decide +kernel) (by decide +kernel)
theorem tw_168 : (Cond.instantiable "MessageHub$Session" (7 : Nat)) ∈ tb_T := tb_in (i := 168) (by decide +kernel) (by decide +kernel)
theorem tw_170 : (Cond.instanceMethod ({ cls := "MessageHub$Session", name := "<init>", desc := "()V" } : MethodName)) ∈ tb_T := tb_in (i := 170) (by decide +kernel) (by decide +kernel)
theorem tw_171 : (Cond.code ({ cls := "MessageHub$Session", name := "<init>", desc := "()V" } : MethodName) prog_10_method_1_code (1 : Nat) (Option.none : Option FieldType)) ∈ tb_T := tb_in (i := 171) (by decide +kernel) (by decide +kernel)
theorem tw_172 : (Cond.methodLink "MessageHub$Session" (3 : Nat) ({ cls := "java/lang/Object", name := "<init>", desc := "()V" } : MethodName)) ∈ tb_T := tb_in (i := 172) (by decide +kernel) (by decide +kernel)
theorem tw_173 : (Cond.classLink "MessageHub$Session" (9 : Nat) "java/util/ArrayList") ∈ tb_T := tb_in (i := 173) (by decide +kernel) (by decide +kernel)
theorem tw_174 : (Cond.methodLink "MessageHub$Session" (11 : Nat) ({ cls := "java/util/ArrayList", name := "<init>", desc := "()V" } : MethodName)) ∈ tb_T := tb_in (i := 174) (by decide +kernel) (by decide +kernel)
theorem tw_175 : (Cond.classLink "MessageHub$Session" (24 : Nat) "MessageHub$HeldIds") ∈ tb_T := tb_in (i := 175) (by decide +kernel) (by decide +kernel)
theorem tw_177 : (Cond.fieldLink "MessageHub$Session" (12 : Nat) "MessageHub$Session" "subscriptions" "Ljava/util/ArrayList;") ∈ tb_T := tb_in (i := 177) (by decide +kernel) (by decide +kernel)
theorem tw_178 : (Cond.fieldLink "MessageHub$Broker" (233 : Nat) "MessageHub$Session" "subscriptions" "Ljava/util/ArrayList;") ∈ tb_T := tb_in (i := 178) (by decide +kernel) (by decide +kernel)
theorem tw_179 : (Cond.fieldLink "MessageHub$Session" (18 : Nat) "MessageHub$Session" "queue" "Ljava/util/ArrayList;") ∈ tb_T := tb_in (i := 179) (by decide +kernel) (by decide +kernel)
theorem tw_180 : (Cond.fieldLink "MessageHub$Broker" (227 : Nat) "MessageHub$Session" "queue" "Ljava/util/ArrayList;") ∈ tb_T := tb_in (i := 180) (by decide +kernel) (by decide +kernel)
theorem tw_181 : (Cond.fieldLink "MessageHub$Session" (21 : Nat) "MessageHub$Session" "underWay" "Ljava/util/ArrayList;") ∈ tb_T := tb_in (i := 181) (by decide +kernel) (by decide +kernel)
theorem tw_182 : (Cond.fieldLink "MessageHub$Broker" (109 : Nat) "MessageHub$Session" "underWay" "Ljava/util/ArrayList;") ∈ tb_T := tb_in (i := 182) (by decide +kernel) (by decide +kernel)
theorem tw_183 : (Cond.fieldLink "MessageHub$Session" (27 : Nat) "MessageHub$Session" "held" "LMessageHub$HeldIds;") ∈ tb_T := tb_in (i := 183) (by decide +kernel) (by decide +kernel)
theorem tw_184 : (Cond.fieldLink "MessageHub$Broker" (91 : Nat) "MessageHub$Session" "held" "LMessageHub$HeldIds;") ∈ tb_T := tb_in (i := 184) (by decide +kernel) (by decide +kernel)
theorem tw_185 : (Cond.fieldLink "MessageHub$Session" (35 : Nat) "MessageHub$Session" "exists" "Z") ∈ tb_T := tb_in (i := 185) (by decide +kernel) (by decide +kernel)
theorem tw_186 : (Cond.fieldLink "MessageHub$Broker" (158 : Nat) "MessageHub$Session" "exists" "Z") ∈ tb_T := tb_in (i := 186) (by decide +kernel) (by decide +kernel)
theorem tw_187 : (Cond.fieldLink "MessageHub$Session" (39 : Nat) "MessageHub$Session" "expiry" "I") ∈ tb_T := tb_in (i := 187) (by decide +kernel) (by decide +kernel)
theorem tw_188 : (Cond.fieldLink "MessageHub$Broker" (162 : Nat) "MessageHub$Session" "expiry" "I") ∈ tb_T := tb_in (i := 188) (by decide +kernel) (by decide +kernel)
theorem tw_189 : (Cond.fieldLink "MessageHub$Session" (43 : Nat) "MessageHub$Session" "count" "I") ∈ tb_T := tb_in (i := 189) (by decide +kernel) (by decide +kernel)
theorem tw_205 : (Cond.fieldLink "MessageHub$Broker" (34 : Nat) "MessageHub$Broker" "links" "[LMessageHub$Link;") ∈ tb_T := tb_in (i := 205) (by decide +kernel) (by decide +kernel)
theorem tw_206 : (Cond.fieldLink "MessageHub$Broker" (11 : Nat) "MessageHub$Broker" "connections" "[LMessageHub$Connection;") ∈ tb_T := tb_in (i := 206) (by decide +kernel) (by decide +kernel)
theorem tw_207 : (Cond.fieldLink "MessageHub" (146 : Nat) "MessageHub$Broker" "connections" "[LMessageHub$Connection;") ∈ tb_T := tb_in (i := 207) (by decide +kernel) (by decide +kernel)
theorem tw_208 : (Cond.fieldLink "MessageHub$Broker" (19 : Nat) "MessageHub$Broker" "sessions" "[LMessageHub$Session;") ∈ tb_T := tb_in (i := 208) (by decide +kernel) (by decide +kernel)
theorem tw_209 : (Cond.fieldLink "MessageHub" (159 : Nat) "MessageHub$Broker" "sessions" "[LMessageHub$Session;") ∈ tb_T := tb_in (i := 209) (by decide +kernel) (by decide +kernel)
theorem tw_210 : (Cond.fieldLink "MessageHub$Broker" (26 : Nat) "MessageHub$Broker" "retainedMessages" "Ljava/util/ArrayList;") ∈ tb_T := tb_in (i := 210) (by decide +kernel) (by decide +kernel)
theorem tw_211 : (Cond.fieldLink "MessageHub$Broker" (30 : Nat) "MessageHub$Broker" "failure" "I") ∈ tb_T := tb_in (i := 211) (by decide +kernel) (by decide +kernel)
theorem tw_212 : (Cond.fieldLink "MessageHub" (143 : Nat) "MessageHub$Broker" "failure" "I") ∈ tb_T := tb_in (i := 212) (by decide +kernel) (by decide +kernel)
theorem tw_224 : (Cond.fieldLink "MessageHub" (11 : Nat) "MessageHub" "links" "[LMessageHub$Link;") ∈ tb_T := tb_in (i := 224) (by decide +kernel) (by decide +kernel)
theorem tw_225 : (Cond.fieldLink "MessageHub" (17 : Nat) "MessageHub" "clients" "[LMessageHub$Client;") ∈ tb_T := tb_in (i := 225) (by decide +kernel) (by decide +kernel)
theorem tw_226 : (Cond.fieldLink "MessageHub" (30 : Nat) "MessageHub" "broker" "LMessageHub$Broker;") ∈ tb_T := tb_in (i := 226) (by decide +kernel) (by decide +kernel)
theorem tw_234 : (Cond.methodLink "MessageHubLaw" (15 : Nat) ({ cls := "MessageHub", name := "will", desc := "(IJI)Z" } : MethodName)) ∈ tb_T := tb_in (i := 234) (by decide +kernel) (by decide +kernel)
theorem tw_235 : (Cond.instanceMethod ({ cls := "MessageHub", name := "will", desc := "(IJI)Z" } : MethodName)) ∈ tb_T := tb_in (i := 235) (by decide +kernel) (by decide +kernel)
theorem tw_236 : (Cond.selects "MessageHub" ({ cls := "MessageHub", name := "will", desc := "(IJI)Z" } : MethodName) ({ cls := "MessageHub", name := "will", desc := "(IJI)Z" } : MethodName)) ∈ tb_T := tb_in (i := 236) (by decide +kernel) (by decide +kernel)
theorem tw_237 : (Cond.code ({ cls := "MessageHub", name := "will", desc := "(IJI)Z" } : MethodName) prog_1_method_2_code (7 : Nat) (Option.some FieldType.boolean)) ∈ tb_T := tb_in (i := 237) (by decide +kernel) (by decide +kernel)
theorem tw_238 : (Cond.methodLink "MessageHub" (34 : Nat) ({ cls := "MessageHub$Text", name := "read", desc := "(J)J" } : MethodName)) ∈ tb_T := tb_in (i := 238) (by decide +kernel) (by decide +kernel)
theorem tw_239 : (Cond.static ({ cls := "MessageHub$Text", name := "read", desc := "(J)J" } : MethodName)) ∈ tb_T := tb_in (i := 239) (by decide +kernel) (by decide +kernel)
theorem tw_240 : (Cond.code ({ cls := "MessageHub$Text", name := "read", desc := "(J)J" } : MethodName) prog_12_method_2_code (8 : Nat) (Option.some FieldType.long)) ∈ tb_T := tb_in (i := 240) (by decide +kernel) (by decide +kernel)
theorem tw_241 : (Cond.methodLink "MessageHub$Text" (9 : Nat) ({ cls := "MessageHub$Text", name := "letterAt", desc := "(JI)I" } : MethodName)) ∈ tb_T := tb_in (i := 241) (by decide +kernel) (by decide +kernel)
theorem tw_242 : (Cond.static ({ cls := "MessageHub$Text", name := "letterAt", desc := "(JI)I" } : MethodName)) ∈ tb_T := tb_in (i := 242) (by decide +kernel) (by decide +kernel)
theorem tw_243 : (Cond.code ({ cls := "MessageHub$Text", name := "letterAt", desc := "(JI)I" } : MethodName) prog_12_method_8_code (3 : Nat) (Option.some FieldType.int)) ∈ tb_T := tb_in (i := 243) (by decide +kernel) (by decide +kernel)
theorem tw_245 : (Cond.static ({ cls := "MessageHub", name := "isWithin", desc := "(III)Z" } : MethodName)) ∈ tb_T := tb_in (i := 245) (by decide +kernel) (by decide +kernel)
theorem tw_246 : (Cond.code ({ cls := "MessageHub", name := "isWithin", desc := "(III)Z" } : MethodName) prog_1_method_22_code (3 : Nat) (Option.some FieldType.boolean)) ∈ tb_T := tb_in (i := 246) (by decide +kernel) (by decide +kernel)
theorem tw_247 : (Cond.methodLink "MessageHub" (40 : Nat) ({ cls := "MessageHub", name := "isClient", desc := "(I)Z" } : MethodName)) ∈ tb_T := tb_in (i := 247) (by decide +kernel) (by decide +kernel)
theorem tw_248 : (Cond.static ({ cls := "MessageHub", name := "isClient", desc := "(I)Z" } : MethodName)) ∈ tb_T := tb_in (i := 248) (by decide +kernel) (by decide +kernel)
theorem tw_249 : (Cond.code ({ cls := "MessageHub", name := "isClient", desc := "(I)Z" } : MethodName) prog_1_method_23_code (1 : Nat) (Option.some FieldType.boolean)) ∈ tb_T := tb_in (i := 249) (by decide +kernel) (by decide +kernel)
theorem tw_250 : (Cond.methodLink "MessageHub" (56 : Nat) ({ cls := "MessageHub", name := "isWithin", desc := "(III)Z" } : MethodName)) ∈ tb_T := tb_in (i := 250) (by decide +kernel) (by decide +kernel)
theorem tw_251 : (Cond.methodLink "MessageHub" (44 : Nat) ({ cls := "MessageHub$Text", name := "isTopic", desc := "(J)Z" } : MethodName)) ∈ tb_T := tb_in (i := 251) (by decide +kernel) (by decide +kernel)
theorem tw_252 : (Cond.static ({ cls := "MessageHub$Text", name := "isTopic", desc := "(J)Z" } : MethodName)) ∈ tb_T := tb_in (i := 252) (by decide +kernel) (by decide +kernel)
theorem tw_253 : (Cond.code ({ cls := "MessageHub$Text", name := "isTopic", desc := "(J)Z" } : MethodName) prog_12_method_3_code (4 : Nat) (Option.some FieldType.boolean)) ∈ tb_T := tb_in (i := 253) (by decide +kernel) (by decide +kernel)
theorem tw_254 : (Cond.methodLink "MessageHub$Text" (15 : Nat) ({ cls := "MessageHub$Text", name := "isPlain", desc := "(I)Z" } : MethodName)) ∈ tb_T := tb_in (i := 254) (by decide +kernel) (by decide +kernel)
theorem tw_255 : (Cond.static ({ cls := "MessageHub$Text", name := "isPlain", desc := "(I)Z" } : MethodName)) ∈ tb_T := tb_in (i := 255) (by decide +kernel) (by decide +kernel)
theorem tw_256 : (Cond.code ({ cls := "MessageHub$Text", name := "isPlain", desc := "(I)Z" } : MethodName) prog_12_method_6_code (1 : Nat) (Option.some FieldType.boolean)) ∈ tb_T := tb_in (i := 256) (by decide +kernel) (by decide +kernel)
theorem tw_257 : (Cond.methodLink "MessageHub" (48 : Nat) ({ cls := "MessageHub$Client", name := "setWill", desc := "(JI)V" } : MethodName)) ∈ tb_T := tb_in (i := 257) (by decide +kernel) (by decide +kernel)
theorem tw_258 : (Cond.instanceMethod ({ cls := "MessageHub$Client", name := "setWill", desc := "(JI)V" } : MethodName)) ∈ tb_T := tb_in (i := 258) (by decide +kernel) (by decide +kernel)
theorem tw_259 : (Cond.selects "MessageHub$Client" ({ cls := "MessageHub$Client", name := "setWill", desc := "(JI)V" } : MethodName) ({ cls := "MessageHub$Client", name := "setWill", desc := "(JI)V" } : MethodName)) ∈ tb_T := tb_in (i := 259) (by decide +kernel) (by decide +kernel)
theorem tw_260 : (Cond.code ({ cls := "MessageHub$Client", name := "setWill", desc := "(JI)V" } : MethodName) prog_3_method_2_code (4 : Nat) (Option.none : Option FieldType)) ∈ tb_T := tb_in (i := 260) (by decide +kernel) (by decide +kernel)
theorem tw_261 : (Cond.methodLink "MessageHubLaw" (20 : Nat) ({ cls := "MessageHub", name := "connect", desc := "(IZIII)Z" } : MethodName)) ∈ tb_T := tb_in (i := 261) (by decide +kernel) (by decide +kernel)
theorem tw_262 : (Cond.instanceMethod ({ cls := "MessageHub", name := "connect", desc := "(IZIII)Z" } : MethodName)) ∈ tb_T := tb_in (i := 262) (by decide +kernel) (by decide +kernel)
theorem tw_263 : (Cond.selects "MessageHub" ({ cls := "MessageHub", name := "connect", desc := "(IZIII)Z" } : MethodName) ({ cls := "MessageHub", name := "connect", desc := "(IZIII)Z" } : MethodName)) ∈ tb_T := tb_in (i := 263) (by decide +kernel) (by decide +kernel)
theorem tw_264 : (Cond.code ({ cls := "MessageHub", name := "connect", desc := "(IZIII)Z" } : MethodName) prog_1_method_3_code (6 : Nat) (Option.some FieldType.boolean)) ∈ tb_T := tb_in (i := 264) (by decide +kernel) (by decide +kernel)
theorem tw_265 : (Cond.methodLink "MessageHub" (60 : Nat) ({ cls := "MessageHub$Client", name := "openLink", desc := "(ZIII)V" } : MethodName)) ∈ tb_T := tb_in (i := 265) (by decide +kernel) (by decide +kernel)
theorem tw_266 : (Cond.instanceMethod ({ cls := "MessageHub$Client", name := "openLink", desc := "(ZIII)V" } : MethodName)) ∈ tb_T := tb_in (i := 266) (by decide +kernel) (by decide +kernel)
theorem tw_267 : (Cond.selects "MessageHub$Client" ({ cls := "MessageHub$Client", name := "openLink", desc := "(ZIII)V" } : MethodName) ({ cls := "MessageHub$Client", name := "openLink", desc := "(ZIII)V" } : MethodName)) ∈ tb_T := tb_in (i := 267) (by decide +kernel) (by decide +kernel)
theorem tw_268 : (Cond.code ({ cls := "MessageHub$Client", name := "openLink", desc := "(ZIII)V" } : MethodName) prog_3_method_3_code (5 : Nat) (Option.none : Option FieldType)) ∈ tb_T := tb_in (i := 268) (by decide +kernel) (by decide +kernel)
theorem tw_269 : (Cond.methodLink "MessageHub$Client" (49 : Nat) ({ cls := "MessageHub$Packet", name := "ofConnect", desc := "(ZIIIJI)LMessageHub$Packet;" } : MethodName)) ∈ tb_T := tb_in (i := 269) (by decide +kernel) (by decide +kernel)
theorem tw_270 : (Cond.static ({ cls := "MessageHub$Packet", name := "ofConnect", desc := "(ZIIIJI)LMessageHub$Packet;" } : MethodName)) ∈ tb_T := tb_in (i := 270) (by decide +kernel) (by decide +kernel)
theorem tw_271 : (Cond.code ({ cls := "MessageHub$Packet", name := "ofConnect", desc := "(ZIIIJI)LMessageHub$Packet;" } : MethodName) prog_8_method_4_code (8 : Nat) (Option.some (FieldType.object "MessageHub$Packet"))) ∈ tb_T := tb_in (i := 271) (by decide +kernel) (by decide +kernel)
theorem tw_272 : (Cond.classLink "MessageHub$Packet" (10 : Nat) "MessageHub$Packet") ∈ tb_T := tb_in (i := 272) (by decide +kernel) (by decide +kernel)
theorem tw_273 : (Cond.instantiable "MessageHub$Packet" (10 : Nat)) ∈ tb_T := tb_in (i := 273) (by decide +kernel) (by decide +kernel)
theorem tw_274 : (Cond.methodLink "MessageHub$Packet" (24 : Nat) ({ cls := "MessageHub$Packet", name := "<init>", desc := "(III)V" } : MethodName)) ∈ tb_T := tb_in (i := 274) (by decide +kernel) (by decide +kernel)
theorem tw_275 : (Cond.instanceMethod ({ cls := "MessageHub$Packet", name := "<init>", desc := "(III)V" } : MethodName)) ∈ tb_T := tb_in (i := 275) (by decide +kernel) (by decide +kernel)
theorem tw_276 : (Cond.code ({ cls := "MessageHub$Packet", name := "<init>", desc := "(III)V" } : MethodName) prog_8_method_1_code (4 : Nat) (Option.none : Option FieldType)) ∈ tb_T := tb_in (i := 276) (by decide +kernel) (by decide +kernel)
theorem tw_277 : (Cond.methodLink "MessageHub$Packet" (3 : Nat) ({ cls := "java/lang/Object", name := "<init>", desc := "()V" } : MethodName)) ∈ tb_T := tb_in (i := 277) (by decide +kernel) (by decide +kernel)
theorem tw_278 : (Cond.fieldLink "MessageHub$Packet" (9 : Nat) "MessageHub$Packet" "type" "I") ∈ tb_T := tb_in (i := 278) (by decide +kernel) (by decide +kernel)
theorem tw_279 : (Cond.fieldLink "MessageHub$Client" (67 : Nat) "MessageHub$Packet" "type" "I") ∈ tb_T := tb_in (i := 279) (by decide +kernel) (by decide +kernel)
theorem tw_280 : (Cond.fieldLink "MessageHub$Broker" (79 : Nat) "MessageHub$Packet" "type" "I") ∈ tb_T := tb_in (i := 280) (by decide +kernel) (by decide +kernel)
theorem tw_281 : (Cond.fieldLink "MessageHub" (128 : Nat) "MessageHub$Packet" "type" "I") ∈ tb_T := tb_in (i := 281) (by decide +kernel) (by decide +kernel)
theorem tw_282 : (Cond.fieldLink "MessageHub$Packet" (15 : Nat) "MessageHub$Packet" "id" "I") ∈ tb_T := tb_in (i := 282) (by decide +kernel) (by decide +kernel)
theorem tw_283 : (Cond.fieldLink "MessageHub$Client" (80 : Nat) "MessageHub$Packet" "id" "I") ∈ tb_T := tb_in (i := 283) (by decide +kernel) (by decide +kernel)
theorem tw_284 : (Cond.fieldLink "MessageHub$Broker" (95 : Nat) "MessageHub$Packet" "id" "I") ∈ tb_T := tb_in (i := 284) (by decide +kernel) (by decide +kernel)
theorem tw_285 : (Cond.fieldLink "MessageHub$Packet" (18 : Nat) "MessageHub$Packet" "value" "I") ∈ tb_T := tb_in (i := 285) (by decide +kernel) (by decide +kernel)
theorem tw_286 : (Cond.fieldLink "MessageHub$Client" (108 : Nat) "MessageHub$Packet" "value" "I") ∈ tb_T := tb_in (i := 286) (by decide +kernel) (by decide +kernel)
theorem tw_287 : (Cond.fieldLink "MessageHub$Broker" (161 : Nat) "MessageHub$Packet" "value" "I") ∈ tb_T := tb_in (i := 287) (by decide +kernel) (by decide +kernel)
theorem tw_288 : (Cond.fieldLink "MessageHub$Packet" (31 : Nat) "MessageHub$Packet" "text" "J") ∈ tb_T := tb_in (i := 288) (by decide +kernel) (by decide +kernel)
theorem tw_289 : (Cond.fieldLink "MessageHub$Connection" (27 : Nat) "MessageHub$Packet" "text" "J") ∈ tb_T := tb_in (i := 289) (by decide +kernel) (by decide +kernel)
theorem tw_290 : (Cond.fieldLink "MessageHub$Broker" (176 : Nat) "MessageHub$Packet" "text" "J") ∈ tb_T := tb_in (i := 290) (by decide +kernel) (by decide +kernel)
theorem tw_291 : (Cond.fieldLink "MessageHub$Packet" (37 : Nat) "MessageHub$Packet" "quality" "I") ∈ tb_T := tb_in (i := 291) (by decide +kernel) (by decide +kernel)
theorem tw_292 : (Cond.fieldLink "MessageHub$Broker" (169 : Nat) "MessageHub$Packet" "quality" "I") ∈ tb_T := tb_in (i := 292) (by decide +kernel) (by decide +kernel)
theorem tw_293 : (Cond.fieldLink "MessageHub$Client" (137 : Nat) "MessageHub$Packet" "quality" "I") ∈ tb_T := tb_in (i := 293) (by decide +kernel) (by decide +kernel)
theorem tw_294 : (Cond.fieldLink "MessageHub$Packet" (38 : Nat) "MessageHub$Packet" "again" "Z") ∈ tb_T := tb_in (i := 294) (by decide +kernel) (by decide +kernel)
theorem tw_295 : (Cond.fieldLink "MessageHub$Packet" (45 : Nat) "MessageHub$Packet" "mark" "Z") ∈ tb_T := tb_in (i := 295) (by decide +kernel) (by decide +kernel)
theorem tw_296 : (Cond.fieldLink "MessageHub$Broker" (152 : Nat) "MessageHub$Packet" "mark" "Z") ∈ tb_T := tb_in (i := 296) (by decide +kernel) (by decide +kernel)
theorem tw_297 : (Cond.fieldLink "MessageHub$Connection" (13 : Nat) "MessageHub$Packet" "window" "I") ∈ tb_T := tb_in (i := 297) (by decide +kernel) (by decide +kernel)
theorem tw_298 : (Cond.fieldLink "MessageHub$Packet" (48 : Nat) "MessageHub$Packet" "window" "I") ∈ tb_T := tb_in (i := 298) (by decide +kernel) (by decide +kernel)
theorem tw_299 : (Cond.fieldLink "MessageHub$Connection" (23 : Nat) "MessageHub$Packet" "keep" "I") ∈ tb_T := tb_in (i := 299) (by decide +kernel) (by decide +kernel)
theorem tw_300 : (Cond.fieldLink "MessageHub$Packet" (51 : Nat) "MessageHub$Packet" "keep" "I") ∈ tb_T := tb_in (i := 300) (by decide +kernel) (by decide +kernel)
theorem tw_301 : (Cond.fieldLink "MessageHub$Connection" (34 : Nat) "MessageHub$Packet" "willValue" "I") ∈ tb_T := tb_in (i := 301) (by decide +kernel) (by decide +kernel)
theorem tw_302 : (Cond.fieldLink "MessageHub$Packet" (54 : Nat) "MessageHub$Packet" "willValue" "I") ∈ tb_T := tb_in (i := 302) (by decide +kernel) (by decide +kernel)
theorem tw_324 : (Cond.methodLink "MessageHub$Client" (55 : Nat) ({ cls := "java/util/ArrayList", name := "add", desc := "(Ljava/lang/Object;)Z" } : MethodName)) ∈ tb_T := tb_in (i := 324) (by decide +kernel) (by decide +kernel)
theorem tw_325 : (Cond.instanceMethod ({ cls := "java/util/ArrayList", name := "add", desc := "(Ljava/lang/Object;)Z" } : MethodName)) ∈ tb_T := tb_in (i := 325) (by decide +kernel) (by decide +kernel)
theorem tw_326 : (Cond.selects "java/util/ArrayList" ({ cls := "java/util/ArrayList", name := "add", desc := "(Ljava/lang/Object;)Z" } : MethodName) ({ cls := "java/util/ArrayList", name := "add", desc := "(Ljava/lang/Object;)Z" } : MethodName)) ∈ tb_T := tb_in (i := 326) (by decide +kernel) (by decide +kernel)
theorem tw_327 : (Cond.code ({ cls := "java/util/ArrayList", name := "add", desc := "(Ljava/lang/Object;)Z" } : MethodName) prog_23_method_25_code (2 : Nat) (Option.some FieldType.boolean)) ∈ tb_T := tb_in (i := 327) (by decide +kernel) (by decide +kernel)
theorem tw_328 : (Cond.methodLink "java/util/ArrayList" (131 : Nat) ({ cls := "java/util/ArrayList", name := "add", desc := "(Ljava/lang/Object;[Ljava/lang/Object;I)V" } : MethodName)) ∈ tb_T := tb_in (i := 328) (by decide +kernel) (by decide +kernel)
theorem tw_330 : (Cond.instanceMethod ({ cls := "java/util/ArrayList", name := "add", desc := "(Ljava/lang/Object;[Ljava/lang/Object;I)V" } : MethodName)) ∈ tb_T := tb_in (i := 330) (by decide +kernel) (by decide +kernel)
theorem tw_331 : (Cond.code ({ cls := "java/util/ArrayList", name := "add", desc := "(Ljava/lang/Object;[Ljava/lang/Object;I)V" } : MethodName) prog_23_method_24_code (4 : Nat) (Option.none : Option FieldType)) ∈ tb_T := tb_in (i := 331) (by decide +kernel) (by decide +kernel)
theorem tw_332 : (Cond.methodLink "java/util/ArrayList" (129 : Nat) ({ cls := "java/util/ArrayList", name := "grow", desc := "()[Ljava/lang/Object;" } : MethodName)) ∈ tb_T := tb_in (i := 332) (by decide +kernel) (by decide +kernel)
theorem tw_334 : (Cond.instanceMethod ({ cls := "java/util/ArrayList", name := "grow", desc := "()[Ljava/lang/Object;" } : MethodName)) ∈ tb_T := tb_in (i := 334) (by decide +kernel) (by decide +kernel)
theorem tw_335 : (Cond.code ({ cls := "java/util/ArrayList", name := "grow", desc := "()[Ljava/lang/Object;" } : MethodName) prog_23_method_7_code (1 : Nat) (Option.some (FieldType.array (FieldType.object "java/lang/Object")))) ∈ tb_T := tb_in (i := 335) (by decide +kernel) (by decide +kernel)
theorem tw_336 : (Cond.methodLink "java/util/ArrayList" (69 : Nat) ({ cls := "java/util/ArrayList", name := "grow", desc := "(I)[Ljava/lang/Object;" } : MethodName)) ∈ tb_T := tb_in (i := 336) (by decide +kernel) (by decide +kernel)
theorem tw_338 : (Cond.instanceMethod ({ cls := "java/util/ArrayList", name := "grow", desc := "(I)[Ljava/lang/Object;" } : MethodName)) ∈ tb_T := tb_in (i := 338) (by decide +kernel) (by decide +kernel)
theorem tw_339 : (Cond.code ({ cls := "java/util/ArrayList", name := "grow", desc := "(I)[Ljava/lang/Object;" } : MethodName) prog_23_method_6_code (4 : Nat) (Option.some (FieldType.array (FieldType.object "java/lang/Object")))) ∈ tb_T := tb_in (i := 339) (by decide +kernel) (by decide +kernel)
theorem tw_340 : (Cond.methodLink "java/util/ArrayList" (73 : Nat) ({ cls := "jdk/internal/util/ArraysSupport", name := "newLength", desc := "(III)I" } : MethodName)) ∈ tb_T := tb_in (i := 340) (by decide +kernel) (by decide +kernel)
theorem tw_341 : (Cond.static ({ cls := "jdk/internal/util/ArraysSupport", name := "newLength", desc := "(III)I" } : MethodName)) ∈ tb_T := tb_in (i := 341) (by decide +kernel) (by decide +kernel)
theorem tw_342 : (Cond.code ({ cls := "jdk/internal/util/ArraysSupport", name := "newLength", desc := "(III)I" } : MethodName) prog_30_method_27_code (4 : Nat) (Option.some FieldType.int)) ∈ tb_T := tb_in (i := 342) (by decide +kernel) (by decide +kernel)
theorem tw_343 : (Cond.methodLink "jdk/internal/util/ArraysSupport" (194 : Nat) ({ cls := "java/lang/Math", name := "max", desc := "(II)I" } : MethodName)) ∈ tb_T := tb_in (i := 343) (by decide +kernel) (by decide +kernel)
theorem tw_344 : (Cond.static ({ cls := "java/lang/Math", name := "max", desc := "(II)I" } : MethodName)) ∈ tb_T := tb_in (i := 344) (by decide +kernel) (by decide +kernel)
theorem tw_345 : (Cond.code ({ cls := "java/lang/Math", name := "max", desc := "(II)I" } : MethodName) prog_19_method_65_code (2 : Nat) (Option.some FieldType.int)) ∈ tb_T := tb_in (i := 345) (by decide +kernel) (by decide +kernel)
theorem tw_346 : (Cond.constant "jdk/internal/util/ArraysSupport" (200 : Nat) (2147483639 : Int32)) ∈ tb_T := tb_in (i := 346) (by decide +kernel) (by decide +kernel)
theorem tw_347 : (Cond.methodLink "jdk/internal/util/ArraysSupport" (201 : Nat) ({ cls := "jdk/internal/util/ArraysSupport", name := "hugeLength", desc := "(II)I" } : MethodName)) ∈ tb_T := tb_in (i := 347) (by decide +kernel) (by decide +kernel)
theorem tw_348 : (Cond.static ({ cls := "jdk/internal/util/ArraysSupport", name := "hugeLength", desc := "(II)I" } : MethodName)) ∈ tb_T := tb_in (i := 348) (by decide +kernel) (by decide +kernel)
theorem tw_349 : (Cond.code ({ cls := "jdk/internal/util/ArraysSupport", name := "hugeLength", desc := "(II)I" } : MethodName) prog_30_method_28_code (3 : Nat) (Option.some FieldType.int)) ∈ tb_T := tb_in (i := 349) (by decide +kernel) (by decide +kernel)
theorem tw_350 : (Cond.methodLink "java/util/ArrayList" (66 : Nat) ({ cls := "java/util/Arrays", name := "copyOf", desc := "([Ljava/lang/Object;I)[Ljava/lang/Object;" } : MethodName)) ∈ tb_T := tb_in (i := 350) (by decide +kernel) (by decide +kernel)
theorem tw_351 : (Cond.static ({ cls := "java/util/Arrays", name := "copyOf", desc := "([Ljava/lang/Object;I)[Ljava/lang/Object;" } : MethodName)) ∈ tb_T := tb_in (i := 351) (by decide +kernel) (by decide +kernel)
theorem tw_352 : (Cond.code ({ cls := "java/util/Arrays", name := "copyOf", desc := "([Ljava/lang/Object;I)[Ljava/lang/Object;" } : MethodName) prog_24_method_119_code (2 : Nat) (Option.some (FieldType.array (FieldType.object "java/lang/Object")))) ∈ tb_T := tb_in (i := 352) (by decide +kernel) (by decide +kernel)
theorem tw_353 : (Cond.methodLink "java/util/Arrays" (86 : Nat) ({ cls := "java/lang/Object", name := "getClass", desc := "()Ljava/lang/Class;" } : MethodName)) ∈ tb_T := tb_in (i := 353) (by decide +kernel) (by decide +kernel)
theorem tw_354 : (Cond.instanceMethod ({ cls := "java/lang/Object", name := "getClass", desc := "()Ljava/lang/Class;" } : MethodName)) ∈ tb_T := tb_in (i := 354) (by decide +kernel) (by decide +kernel)
theorem tw_369 : (Cond.native ({ cls := "java/lang/Object", name := "getClass", desc := "()Ljava/lang/Class;" } : MethodName)) ∈ tb_T := tb_in (i := 369) (by decide +kernel) (by decide +kernel)
theorem tw_370 : (Cond.methodLink "java/util/Arrays" (300 : Nat) ({ cls := "java/util/Arrays", name := "copyOf", desc := "([Ljava/lang/Object;ILjava/lang/Class;)[Ljava/lang/Object;" } : MethodName)) ∈ tb_T := tb_in (i := 370) (by decide +kernel) (by decide +kernel)
theorem tw_371 : (Cond.static ({ cls := "java/util/Arrays", name := "copyOf", desc := "([Ljava/lang/Object;ILjava/lang/Class;)[Ljava/lang/Object;" } : MethodName)) ∈ tb_T := tb_in (i := 371) (by decide +kernel) (by decide +kernel)
theorem tw_372 : (Cond.code ({ cls := "java/util/Arrays", name := "copyOf", desc := "([Ljava/lang/Object;ILjava/lang/Class;)[Ljava/lang/Object;" } : MethodName) prog_24_method_120_code (4 : Nat) (Option.some (FieldType.array (FieldType.object "java/lang/Object")))) ∈ tb_T := tb_in (i := 372) (by decide +kernel) (by decide +kernel)
theorem tw_373 : (Cond.classLink "java/util/Arrays" (110 : Nat) "[Ljava/lang/Object;") ∈ tb_T := tb_in (i := 373) (by decide +kernel) (by decide +kernel)
theorem tw_375 : (Cond.classLink "java/util/Arrays" (2 : Nat) "java/lang/Object") ∈ tb_T := tb_in (i := 375) (by decide +kernel) (by decide +kernel)
theorem tw_376 : (Cond.methodLink "java/util/Arrays" (304 : Nat) ({ cls := "java/lang/Math", name := "min", desc := "(II)I" } : MethodName)) ∈ tb_T := tb_in (i := 376) (by decide +kernel) (by decide +kernel)
theorem tw_377 : (Cond.static ({ cls := "java/lang/Math", name := "min", desc := "(II)I" } : MethodName)) ∈ tb_T := tb_in (i := 377) (by decide +kernel) (by decide +kernel)
theorem tw_378 : (Cond.code ({ cls := "java/lang/Math", name := "min", desc := "(II)I" } : MethodName) prog_19_method_69_code (2 : Nat) (Option.some FieldType.int)) ∈ tb_T := tb_in (i := 378) (by decide +kernel) (by decide +kernel)
theorem tw_379 : (Cond.methodLink "java/util/Arrays" (150 : Nat) ({ cls := "java/lang/System", name := "arraycopy", desc := "(Ljava/lang/Object;ILjava/lang/Object;II)V" } : MethodName)) ∈ tb_T := tb_in (i := 379) (by decide +kernel) (by decide +kernel)
theorem tw_380 : (Cond.static ({ cls := "java/lang/System", name := "arraycopy", desc := "(Ljava/lang/Object;ILjava/lang/Object;II)V" } : MethodName)) ∈ tb_T := tb_in (i := 380) (by decide +kernel) (by decide +kernel)
theorem tw_381 : (Cond.native ({ cls := "java/lang/System", name := "arraycopy", desc := "(Ljava/lang/Object;ILjava/lang/Object;II)V" } : MethodName)) ∈ tb_T := tb_in (i := 381) (by decide +kernel) (by decide +kernel)
theorem tw_382 : (Cond.methodLink "java/util/ArrayList" (79 : Nat) ({ cls := "java/lang/Math", name := "max", desc := "(II)I" } : MethodName)) ∈ tb_T := tb_in (i := 382) (by decide +kernel) (by decide +kernel)
theorem tw_383 : (Cond.classLink "java/util/ArrayList" (7 : Nat) "java/lang/Object") ∈ tb_T := tb_in (i := 383) (by decide +kernel) (by decide +kernel)
theorem tw_384 : (Cond.methodLink "MessageHubLaw" (25 : Nat) ({ cls := "MessageHub", name := "drop", desc := "(I)Z" } : MethodName)) ∈ tb_T := tb_in (i := 384) (by decide +kernel) (by decide +kernel)
theorem tw_385 : (Cond.instanceMethod ({ cls := "MessageHub", name := "drop", desc := "(I)Z" } : MethodName)) ∈ tb_T := tb_in (i := 385) (by decide +kernel) (by decide +kernel)
theorem tw_386 : (Cond.selects "MessageHub" ({ cls := "MessageHub", name := "drop", desc := "(I)Z" } : MethodName) ({ cls := "MessageHub", name := "drop", desc := "(I)Z" } : MethodName)) ∈ tb_T := tb_in (i := 386) (by decide +kernel) (by decide +kernel)
theorem tw_387 : (Cond.code ({ cls := "MessageHub", name := "drop", desc := "(I)Z" } : MethodName) prog_1_method_4_code (2 : Nat) (Option.some FieldType.boolean)) ∈ tb_T := tb_in (i := 387) (by decide +kernel) (by decide +kernel)
theorem tw_388 : (Cond.methodLink "MessageHub" (64 : Nat) ({ cls := "MessageHub$Link", name := "close", desc := "()V" } : MethodName)) ∈ tb_T := tb_in (i := 388) (by decide +kernel) (by decide +kernel)
theorem tw_389 : (Cond.instanceMethod ({ cls := "MessageHub$Link", name := "close", desc := "()V" } : MethodName)) ∈ tb_T := tb_in (i := 389) (by decide +kernel) (by decide +kernel)
theorem tw_390 : (Cond.selects "MessageHub$Link" ({ cls := "MessageHub$Link", name := "close", desc := "()V" } : MethodName) ({ cls := "MessageHub$Link", name := "close", desc := "()V" } : MethodName)) ∈ tb_T := tb_in (i := 390) (by decide +kernel) (by decide +kernel)
theorem tw_391 : (Cond.code ({ cls := "MessageHub$Link", name := "close", desc := "()V" } : MethodName) prog_6_method_3_code (1 : Nat) (Option.none : Option FieldType)) ∈ tb_T := tb_in (i := 391) (by decide +kernel) (by decide +kernel)
theorem tw_392 : (Cond.methodLink "MessageHub$Link" (25 : Nat) ({ cls := "java/util/ArrayList", name := "clear", desc := "()V" } : MethodName)) ∈ tb_T := tb_in (i := 392) (by decide +kernel) (by decide +kernel)
theorem tw_393 : (Cond.instanceMethod ({ cls := "java/util/ArrayList", name := "clear", desc := "()V" } : MethodName)) ∈ tb_T := tb_in (i := 393) (by decide +kernel) (by decide +kernel)
theorem tw_394 : (Cond.selects "java/util/ArrayList" ({ cls := "java/util/ArrayList", name := "clear", desc := "()V" } : MethodName) ({ cls := "java/util/ArrayList", name := "clear", desc := "()V" } : MethodName)) ∈ tb_T := tb_in (i := 394) (by decide +kernel) (by decide +kernel)
theorem tw_395 : (Cond.code ({ cls := "java/util/ArrayList", name := "clear", desc := "()V" } : MethodName) prog_23_method_40_code (4 : Nat) (Option.none : Option FieldType)) ∈ tb_T := tb_in (i := 395) (by decide +kernel) (by decide +kernel)
theorem tw_396 : (Cond.methodLink "MessageHubLaw" (30 : Nat) ({ cls := "MessageHub", name := "leave", desc := "(I)Z" } : MethodName)) ∈ tb_T := tb_in (i := 396) (by decide +kernel) (by decide +kernel)
theorem tw_397 : (Cond.instanceMethod ({ cls := "MessageHub", name := "leave", desc := "(I)Z" } : MethodName)) ∈ tb_T := tb_in (i := 397) (by decide +kernel) (by decide +kernel)
theorem tw_398 : (Cond.selects "MessageHub" ({ cls := "MessageHub", name := "leave", desc := "(I)Z" } : MethodName) ({ cls := "MessageHub", name := "leave", desc := "(I)Z" } : MethodName)) ∈ tb_T := tb_in (i := 398) (by decide +kernel) (by decide +kernel)
theorem tw_399 : (Cond.code ({ cls := "MessageHub", name := "leave", desc := "(I)Z" } : MethodName) prog_1_method_5_code (2 : Nat) (Option.some FieldType.boolean)) ∈ tb_T := tb_in (i := 399) (by decide +kernel) (by decide +kernel)
theorem tw_400 : (Cond.methodLink "MessageHub" (67 : Nat) ({ cls := "MessageHub", name := "canSend", desc := "(I)Z" } : MethodName)) ∈ tb_T := tb_in (i := 400) (by decide +kernel) (by decide +kernel)
theorem tw_402 : (Cond.instanceMethod ({ cls := "MessageHub", name := "canSend", desc := "(I)Z" } : MethodName)) ∈ tb_T := tb_in (i := 402) (by decide +kernel) (by decide +kernel)
theorem tw_403 : (Cond.code ({ cls := "MessageHub", name := "canSend", desc := "(I)Z" } : MethodName) prog_1_method_24_code (2 : Nat) (Option.some FieldType.boolean)) ∈ tb_T := tb_in (i := 403) (by decide +kernel) (by decide +kernel)
theorem tw_404 : (Cond.methodLink "MessageHub" (116 : Nat) ({ cls := "java/util/ArrayList", name := "size", desc := "()I" } : MethodName)) ∈ tb_T := tb_in (i := 404) (by decide +kernel) (by decide +kernel)
theorem tw_405 : (Cond.instanceMethod ({ cls := "java/util/ArrayList", name := "size", desc := "()I" } : MethodName)) ∈ tb_T := tb_in (i := 405) (by decide +kernel) (by decide +kernel)
theorem tw_406 : (Cond.selects "java/util/ArrayList" ({ cls := "java/util/ArrayList", name := "size", desc := "()I" } : MethodName) ({ cls := "java/util/ArrayList", name := "size", desc := "()I" } : MethodName)) ∈ tb_T := tb_in (i := 406) (by decide +kernel) (by decide +kernel)
theorem tw_407 : (Cond.code ({ cls := "java/util/ArrayList", name := "size", desc := "()I" } : MethodName) prog_23_method_8_code (1 : Nat) (Option.some FieldType.int)) ∈ tb_T := tb_in (i := 407) (by decide +kernel) (by decide +kernel)
theorem tw_408 : (Cond.classLink "MessageHub" (74 : Nat) "MessageHub$Packet") ∈ tb_T := tb_in (i := 408) (by decide +kernel) (by decide +kernel)
theorem tw_409 : (Cond.methodLink "MessageHub" (76 : Nat) ({ cls := "MessageHub$Packet", name := "<init>", desc := "(III)V" } : MethodName)) ∈ tb_T := tb_in (i := 409) (by decide +kernel) (by decide +kernel)
theorem tw_410 : (Cond.methodLink "MessageHub" (79 : Nat) ({ cls := "java/util/ArrayList", name := "add", desc := "(Ljava/lang/Object;)Z" } : MethodName)) ∈ tb_T := tb_in (i := 410) (by decide +kernel) (by decide +kernel)
theorem tw_411 : (Cond.methodLink "MessageHubLaw" (34 : Nat) ({ cls := "MessageHub", name := "ping", desc := "(I)Z" } : MethodName)) ∈ tb_T := tb_in (i := 411) (by decide +kernel) (by decide +kernel)
theorem tw_412 : (Cond.instanceMethod ({ cls := "MessageHub", name := "ping", desc := "(I)Z" } : MethodName)) ∈ tb_T := tb_in (i := 412) (by decide +kernel) (by decide +kernel)
theorem tw_413 : (Cond.selects "MessageHub" ({ cls := "MessageHub", name := "ping", desc := "(I)Z" } : MethodName) ({ cls := "MessageHub", name := "ping", desc := "(I)Z" } : MethodName)) ∈ tb_T := tb_in (i := 413) (by decide +kernel) (by decide +kernel)
theorem tw_414 : (Cond.code ({ cls := "MessageHub", name := "ping", desc := "(I)Z" } : MethodName) prog_1_method_6_code (2 : Nat) (Option.some FieldType.boolean)) ∈ tb_T := tb_in (i := 414) (by decide +kernel) (by decide +kernel)
theorem tw_415 : (Cond.methodLink "MessageHubLaw" (38 : Nat) ({ cls := "MessageHub", name := "subscribe", desc := "(IJIZ)Z" } : MethodName)) ∈ tb_T := tb_in (i := 415) (by decide +kernel) (by decide +kernel)
theorem tw_416 : (Cond.instanceMethod ({ cls := "MessageHub", name := "subscribe", desc := "(IJIZ)Z" } : MethodName)) ∈ tb_T := tb_in (i := 416) (by decide +kernel) (by decide +kernel)
theorem tw_417 : (Cond.selects "MessageHub" ({ cls := "MessageHub", name := "subscribe", desc := "(IJIZ)Z" } : MethodName) ({ cls := "MessageHub", name := "subscribe", desc := "(IJIZ)Z" } : MethodName)) ∈ tb_T := tb_in (i := 417) (by decide +kernel) (by decide +kernel)
theorem tw_418 : (Cond.code ({ cls := "MessageHub", name := "subscribe", desc := "(IJIZ)Z" } : MethodName) prog_1_method_7_code (8 : Nat) (Option.some FieldType.boolean)) ∈ tb_T := tb_in (i := 418) (by decide +kernel) (by decide +kernel)
theorem tw_419 : (Cond.methodLink "MessageHub" (85 : Nat) ({ cls := "MessageHub$Text", name := "isFilter", desc := "(J)Z" } : MethodName)) ∈ tb_T := tb_in (i := 419) (by decide +kernel) (by decide +kernel)
theorem tw_420 : (Cond.static ({ cls := "MessageHub$Text", name := "isFilter", desc := "(J)Z" } : MethodName)) ∈ tb_T := tb_in (i := 420) (by decide +kernel) (by decide +kernel)
theorem tw_421 : (Cond.code ({ cls := "MessageHub$Text", name := "isFilter", desc := "(J)Z" } : MethodName) prog_12_method_4_code (4 : Nat) (Option.some FieldType.boolean)) ∈ tb_T := tb_in (i := 421) (by decide +kernel) (by decide +kernel)
theorem tw_422 : (Cond.methodLink "MessageHub$Text" (19 : Nat) ({ cls := "MessageHub$Text", name := "isJokerInPlace", desc := "(JI)Z" } : MethodName)) ∈ tb_T := tb_in (i := 422) (by decide +kernel) (by decide +kernel)
theorem tw_423 : (Cond.static ({ cls := "MessageHub$Text", name := "isJokerInPlace", desc := "(JI)Z" } : MethodName)) ∈ tb_T := tb_in (i := 423) (by decide +kernel) (by decide +kernel)
theorem tw_424 : (Cond.code ({ cls := "MessageHub$Text", name := "isJokerInPlace", desc := "(JI)Z" } : MethodName) prog_12_method_7_code (6 : Nat) (Option.some FieldType.boolean)) ∈ tb_T := tb_in (i := 424) (by decide +kernel) (by decide +kernel)
theorem tw_425 : (Cond.methodLink "MessageHub" (88 : Nat) ({ cls := "MessageHub$Packet", name := "ofFilter", desc := "(IJIZ)LMessageHub$Packet;" } : MethodName)) ∈ tb_T := tb_in (i := 425) (by decide +kernel) (by decide +kernel)
theorem tw_426 : (Cond.static ({ cls := "MessageHub$Packet", name := "ofFilter", desc := "(IJIZ)LMessageHub$Packet;" } : MethodName)) ∈ tb_T := tb_in (i := 426) (by decide +kernel) (by decide +kernel)
theorem tw_427 : (Cond.code ({ cls := "MessageHub$Packet", name := "ofFilter", desc := "(IJIZ)LMessageHub$Packet;" } : MethodName) prog_8_method_3_code (6 : Nat) (Option.some (FieldType.object "MessageHub$Packet"))) ∈ tb_T := tb_in (i := 427) (by decide +kernel) (by decide +kernel)
theorem tw_428 : (Cond.methodLink "MessageHubLaw" (43 : Nat) ({ cls := "MessageHub", name := "unsubscribe", desc := "(IJ)Z" } : MethodName)) ∈ tb_T := tb_in (i := 428) (by decide +kernel) (by decide +kernel)
theorem tw_429 : (Cond.instanceMethod ({ cls := "MessageHub", name := "unsubscribe", desc := "(IJ)Z" } : MethodName)) ∈ tb_T := tb_in (i := 429) (by decide +kernel) (by decide +kernel)
theorem tw_430 : (Cond.selects "MessageHub" ({ cls := "MessageHub", name := "unsubscribe", desc := "(IJ)Z" } : MethodName) ({ cls := "MessageHub", name := "unsubscribe", desc := "(IJ)Z" } : MethodName)) ∈ tb_T := tb_in (i := 430) (by decide +kernel) (by decide +kernel)
theorem tw_431 : (Cond.code ({ cls := "MessageHub", name := "unsubscribe", desc := "(IJ)Z" } : MethodName) prog_1_method_8_code (6 : Nat) (Option.some FieldType.boolean)) ∈ tb_T := tb_in (i := 431) (by decide +kernel) (by decide +kernel)
theorem tw_432 : (Cond.methodLink "MessageHubLaw" (48 : Nat) ({ cls := "MessageHub", name := "publish", desc := "(IJIIZ)Z" } : MethodName)) ∈ tb_T := tb_in (i := 432) (by decide +kernel) (by decide +kernel)
theorem tw_433 : (Cond.instanceMethod ({ cls := "MessageHub", name := "publish", desc := "(IJIIZ)Z" } : MethodName)) ∈ tb_T := tb_in (i := 433) (by decide +kernel) (by decide +kernel)
theorem tw_434 : (Cond.selects "MessageHub" ({ cls := "MessageHub", name := "publish", desc := "(IJIIZ)Z" } : MethodName) ({ cls := "MessageHub", name := "publish", desc := "(IJIIZ)Z" } : MethodName)) ∈ tb_T := tb_in (i := 434) (by decide +kernel) (by decide +kernel)
theorem tw_435 : (Cond.code ({ cls := "MessageHub", name := "publish", desc := "(IJIIZ)Z" } : MethodName) prog_1_method_9_code (10 : Nat) (Option.some FieldType.boolean)) ∈ tb_T := tb_in (i := 435) (by decide +kernel) (by decide +kernel)
theorem tw_436 : (Cond.methodLink "MessageHub" (92 : Nat) ({ cls := "MessageHub", name := "canKeep", desc := "(I)Z" } : MethodName)) ∈ tb_T := tb_in (i := 436) (by decide +kernel) (by decide +kernel)
theorem tw_438 : (Cond.instanceMethod ({ cls := "MessageHub", name := "canKeep", desc := "(I)Z" } : MethodName)) ∈ tb_T := tb_in (i := 438) (by decide +kernel) (by decide +kernel)
theorem tw_439 : (Cond.code ({ cls := "MessageHub", name := "canKeep", desc := "(I)Z" } : MethodName) prog_1_method_25_code (2 : Nat) (Option.some FieldType.boolean)) ∈ tb_T := tb_in (i := 439) (by decide +kernel) (by decide +kernel)
theorem tw_440 : (Cond.classLink "MessageHub" (95 : Nat) "MessageHub$Message") ∈ tb_T := tb_in (i := 440) (by decide +kernel) (by decide +kernel)
theorem tw_441 : (Cond.instantiable "MessageHub$Message" (4 : Nat)) ∈ tb_T := tb_in (i := 441) (by decide +kernel) (by decide +kernel)
theorem tw_442 : (Cond.methodLink "MessageHub" (97 : Nat) ({ cls := "MessageHub$Message", name := "<init>", desc := "(JIIZ)V" } : MethodName)) ∈ tb_T := tb_in (i := 442) (by decide +kernel) (by decide +kernel)
theorem tw_443 : (Cond.instanceMethod ({ cls := "MessageHub$Message", name := "<init>", desc := "(JIIZ)V" } : MethodName)) ∈ tb_T := tb_in (i := 443) (by decide +kernel) (by decide +kernel)
theorem tw_444 : (Cond.code ({ cls := "MessageHub$Message", name := "<init>", desc := "(JIIZ)V" } : MethodName) prog_7_method_1_code (6 : Nat) (Option.none : Option FieldType)) ∈ tb_T := tb_in (i := 444) (by decide +kernel) (by decide +kernel)
theorem tw_445 : (Cond.methodLink "MessageHub$Message" (1 : Nat) ({ cls := "java/lang/Object", name := "<init>", desc := "()V" } : MethodName)) ∈ tb_T := tb_in (i := 445) (by decide +kernel) (by decide +kernel)
theorem tw_446 : (Cond.fieldLink "MessageHub$Message" (7 : Nat) "MessageHub$Message" "topic" "J") ∈ tb_T := tb_in (i := 446) (by decide +kernel) (by decide +kernel)
theorem tw_447 : (Cond.fieldLink "MessageHub$Packet" (27 : Nat) "MessageHub$Message" "topic" "J") ∈ tb_T := tb_in (i := 447) (by decide +kernel) (by decide +kernel)
theorem tw_448 : (Cond.fieldLink "MessageHub$Subscription" (19 : Nat) "MessageHub$Message" "topic" "J") ∈ tb_T := tb_in (i := 448) (by decide +kernel) (by decide +kernel)
theorem tw_449 : (Cond.fieldLink "MessageHub$Broker" (193 : Nat) "MessageHub$Message" "topic" "J") ∈ tb_T := tb_in (i := 449) (by decide +kernel) (by decide +kernel)
theorem tw_450 : (Cond.fieldLink "MessageHub$Message" (13 : Nat) "MessageHub$Message" "value" "I") ∈ tb_T := tb_in (i := 450) (by decide +kernel) (by decide +kernel)
theorem tw_451 : (Cond.fieldLink "MessageHub$Packet" (21 : Nat) "MessageHub$Message" "value" "I") ∈ tb_T := tb_in (i := 451) (by decide +kernel) (by decide +kernel)
theorem tw_452 : (Cond.fieldLink "MessageHub$Broker" (73 : Nat) "MessageHub$Message" "value" "I") ∈ tb_T := tb_in (i := 452) (by decide +kernel) (by decide +kernel)
theorem tw_453 : (Cond.fieldLink "MessageHub$Message" (17 : Nat) "MessageHub$Message" "quality" "I") ∈ tb_T := tb_in (i := 453) (by decide +kernel) (by decide +kernel)
theorem tw_454 : (Cond.fieldLink "MessageHub$Packet" (34 : Nat) "MessageHub$Message" "quality" "I") ∈ tb_T := tb_in (i := 454) (by decide +kernel) (by decide +kernel)
theorem tw_455 : (Cond.fieldLink "MessageHub$Subscription" (34 : Nat) "MessageHub$Message" "quality" "I") ∈ tb_T := tb_in (i := 455) (by decide +kernel) (by decide +kernel)
theorem tw_456 : (Cond.fieldLink "MessageHub$Parcel" (41 : Nat) "MessageHub$Message" "quality" "I") ∈ tb_T := tb_in (i := 456) (by decide +kernel) (by decide +kernel)
theorem tw_457 : (Cond.fieldLink "MessageHub$Broker" (202 : Nat) "MessageHub$Message" "quality" "I") ∈ tb_T := tb_in (i := 457) (by decide +kernel) (by decide +kernel)
theorem tw_458 : (Cond.fieldLink "MessageHub$Message" (20 : Nat) "MessageHub$Message" "retain" "Z") ∈ tb_T := tb_in (i := 458) (by decide +kernel) (by decide +kernel)
theorem tw_459 : (Cond.fieldLink "MessageHub$Packet" (42 : Nat) "MessageHub$Message" "retain" "Z") ∈ tb_T := tb_in (i := 459) (by decide +kernel) (by decide +kernel)
theorem tw_460 : (Cond.fieldLink "MessageHub$Broker" (253 : Nat) "MessageHub$Message" "retain" "Z") ∈ tb_T := tb_in (i := 460) (by decide +kernel) (by decide +kernel)
theorem tw_470 : (Cond.methodLink "MessageHub" (100 : Nat) ({ cls := "MessageHub$Packet", name := "ofMessage", desc := "(LMessageHub$Message;IZ)LMessageHub$Packet;" } : MethodName)) ∈ tb_T := tb_in (i := 470) (by decide +kernel) (by decide +kernel)
theorem tw_471 : (Cond.static ({ cls := "MessageHub$Packet", name := "ofMessage", desc := "(LMessageHub$Message;IZ)LMessageHub$Packet;" } : MethodName)) ∈ tb_T := tb_in (i := 471) (by decide +kernel) (by decide +kernel)
theorem tw_472 : (Cond.code ({ cls := "MessageHub$Packet", name := "ofMessage", desc := "(LMessageHub$Message;IZ)LMessageHub$Packet;" } : MethodName) prog_8_method_2_code (4 : Nat) (Option.some (FieldType.object "MessageHub$Packet"))) ∈ tb_T := tb_in (i := 472) (by decide +kernel) (by decide +kernel)
theorem tw_473 : (Cond.methodLink "MessageHub" (104 : Nat) ({ cls := "MessageHub$Client", name := "keep", desc := "(LMessageHub$Message;)V" } : MethodName)) ∈ tb_T := tb_in (i := 473) (by decide +kernel) (by decide +kernel)
theorem tw_474 : (Cond.instanceMethod ({ cls := "MessageHub$Client", name := "keep", desc := "(LMessageHub$Message;)V" } : MethodName)) ∈ tb_T := tb_in (i := 474) (by decide +kernel) (by decide +kernel)
theorem tw_475 : (Cond.selects "MessageHub$Client" ({ cls := "MessageHub$Client", name := "keep", desc := "(LMessageHub$Message;)V" } : MethodName) ({ cls := "MessageHub$Client", name := "keep", desc := "(LMessageHub$Message;)V" } : MethodName)) ∈ tb_T := tb_in (i := 475) (by decide +kernel) (by decide +kernel)
theorem tw_476 : (Cond.code ({ cls := "MessageHub$Client", name := "keep", desc := "(LMessageHub$Message;)V" } : MethodName) prog_3_method_4_code (2 : Nat) (Option.none : Option FieldType)) ∈ tb_T := tb_in (i := 476) (by decide +kernel) (by decide +kernel)
theorem tw_477 : (Cond.classLink "MessageHub$Client" (59 : Nat) "MessageHub$Parcel") ∈ tb_T := tb_in (i := 477) (by decide +kernel) (by decide +kernel)
theorem tw_478 : (Cond.instantiable "MessageHub$Parcel" (3 : Nat)) ∈ tb_T := tb_in (i := 478) (by decide +kernel) (by decide +kernel)
theorem tw_479 : (Cond.methodLink "MessageHub$Client" (61 : Nat) ({ cls := "MessageHub$Parcel", name := "<init>", desc := "(LMessageHub$Message;)V" } : MethodName)) ∈ tb_T := tb_in (i := 479) (by decide +kernel) (by decide +kernel)
theorem tw_480 : (Cond.instanceMethod ({ cls := "MessageHub$Parcel", name := "<init>", desc := "(LMessageHub$Message;)V" } : MethodName)) ∈ tb_T := tb_in (i := 480) (by decide +kernel) (by decide +kernel)
theorem tw_481 : (Cond.code ({ cls := "MessageHub$Parcel", name := "<init>", desc := "(LMessageHub$Message;)V" } : MethodName) prog_9_method_1_code (2 : Nat) (Option.none : Option FieldType)) ∈ tb_T := tb_in (i := 481) (by decide +kernel) (by decide +kernel)
theorem tw_482 : (Cond.methodLink "MessageHub$Parcel" (3 : Nat) ({ cls := "java/lang/Object", name := "<init>", desc := "()V" } : MethodName)) ∈ tb_T := tb_in (i := 482) (by decide +kernel) (by decide +kernel)
theorem tw_483 : (Cond.fieldLink "MessageHub$Parcel" (15 : Nat) "MessageHub$Parcel" "message" "LMessageHub$Message;") ∈ tb_T := tb_in (i := 483) (by decide +kernel) (by decide +kernel)
theorem tw_484 : (Cond.fieldLink "MessageHub$Client" (165 : Nat) "MessageHub$Parcel" "message" "LMessageHub$Message;") ∈ tb_T := tb_in (i := 484) (by decide +kernel) (by decide +kernel)
theorem tw_485 : (Cond.fieldLink "MessageHub$Broker" (283 : Nat) "MessageHub$Parcel" "message" "LMessageHub$Message;") ∈ tb_T := tb_in (i := 485) (by decide +kernel) (by decide +kernel)
theorem tw_486 : (Cond.fieldLink "MessageHub$Parcel" (9 : Nat) "MessageHub$Parcel" "stage" "I") ∈ tb_T := tb_in (i := 486) (by decide +kernel) (by decide +kernel)
theorem tw_487 : (Cond.fieldLink "MessageHub$Client" (124 : Nat) "MessageHub$Parcel" "stage" "I") ∈ tb_T := tb_in (i := 487) (by decide +kernel) (by decide +kernel)
theorem tw_488 : (Cond.fieldLink "MessageHub$Parcel" (19 : Nat) "MessageHub$Parcel" "id" "I") ∈ tb_T := tb_in (i := 488) (by decide +kernel) (by decide +kernel)
theorem tw_489 : (Cond.fieldLink "MessageHub$Client" (169 : Nat) "MessageHub$Parcel" "id" "I") ∈ tb_T := tb_in (i := 489) (by decide +kernel) (by decide +kernel)
theorem tw_490 : (Cond.fieldLink "MessageHub$Broker" (287 : Nat) "MessageHub$Parcel" "id" "I") ∈ tb_T := tb_in (i := 490) (by decide +kernel) (by decide +kernel)
theorem tw_498 : (Cond.methodLink "MessageHub$Client" (64 : Nat) ({ cls := "MessageHub$Client", name := "pump", desc := "()V" } : MethodName)) ∈ tb_T := tb_in (i := 498) (by decide +kernel) (by decide +kernel)
theorem tw_500 : (Cond.instanceMethod ({ cls := "MessageHub$Client", name := "pump", desc := "()V" } : MethodName)) ∈ tb_T := tb_in (i := 500) (by decide +kernel) (by decide +kernel)
theorem tw_501 : (Cond.code ({ cls := "MessageHub$Client", name := "pump", desc := "()V" } : MethodName) prog_3_method_15_code (4 : Nat) (Option.none : Option FieldType)) ∈ tb_T := tb_in (i := 501) (by decide +kernel) (by decide +kernel)
theorem tw_502 : (Cond.methodLink "MessageHub$Client" (101 : Nat) ({ cls := "MessageHub$Parcel", name := "countUnderWay", desc := "(Ljava/util/ArrayList;)I" } : MethodName)) ∈ tb_T := tb_in (i := 502) (by decide +kernel) (by decide +kernel)
theorem tw_503 : (Cond.static ({ cls := "MessageHub$Parcel", name := "countUnderWay", desc := "(Ljava/util/ArrayList;)I" } : MethodName)) ∈ tb_T := tb_in (i := 503) (by decide +kernel) (by decide +kernel)
theorem tw_504 : (Cond.code ({ cls := "MessageHub$Parcel", name := "countUnderWay", desc := "(Ljava/util/ArrayList;)I" } : MethodName) prog_9_method_5_code (3 : Nat) (Option.some FieldType.int)) ∈ tb_T := tb_in (i := 504) (by decide +kernel) (by decide +kernel)
theorem tw_505 : (Cond.methodLink "MessageHub$Parcel" (31 : Nat) ({ cls := "java/util/ArrayList", name := "size", desc := "()I" } : MethodName)) ∈ tb_T := tb_in (i := 505) (by decide +kernel) (by decide +kernel)
theorem tw_506 : (Cond.methodLink "MessageHub$Parcel" (37 : Nat) ({ cls := "java/util/ArrayList", name := "get", desc := "(I)Ljava/lang/Object;" } : MethodName)) ∈ tb_T := tb_in (i := 506) (by decide +kernel) (by decide +kernel)
theorem tw_507 : (Cond.instanceMethod ({ cls := "java/util/ArrayList", name := "get", desc := "(I)Ljava/lang/Object;" } : MethodName)) ∈ tb_T := tb_in (i := 507) (by decide +kernel) (by decide +kernel)
theorem tw_508 : (Cond.selects "java/util/ArrayList" ({ cls := "java/util/ArrayList", name := "get", desc := "(I)Ljava/lang/Object;" } : MethodName) ({ cls := "java/util/ArrayList", name := "get", desc := "(I)Ljava/lang/Object;" } : MethodName)) ∈ tb_T := tb_in (i := 508) (by decide +kernel) (by decide +kernel)
theorem tw_509 : (Cond.code ({ cls := "java/util/ArrayList", name := "get", desc := "(I)Ljava/lang/Object;" } : MethodName) prog_23_method_20_code (2 : Nat) (Option.some (FieldType.object "java/lang/Object"))) ∈ tb_T := tb_in (i := 509) (by decide +kernel) (by decide +kernel)
theorem tw_510 : (Cond.methodLink "java/util/ArrayList" (118 : Nat) ({ cls := "java/util/Objects", name := "checkIndex", desc := "(II)I" } : MethodName)) ∈ tb_T := tb_in (i := 510) (by decide +kernel) (by decide +kernel)
theorem tw_511 : (Cond.static ({ cls := "java/util/Objects", name := "checkIndex", desc := "(II)I" } : MethodName)) ∈ tb_T := tb_in (i := 511) (by decide +kernel) (by decide +kernel)
theorem tw_512 : (Cond.code ({ cls := "java/util/Objects", name := "checkIndex", desc := "(II)I" } : MethodName) prog_27_method_17_code (2 : Nat) (Option.some FieldType.int)) ∈ tb_T := tb_in (i := 512) (by decide +kernel) (by decide +kernel)
theorem tw_513 : (Cond.methodLink "java/util/Objects" (105 : Nat) ({ cls := "jdk/internal/util/Preconditions", name := "checkIndex", desc := "(IILjava/util/function/BiFunction;)I" } : MethodName)) ∈ tb_T := tb_in (i := 513) (by decide +kernel) (by decide +kernel)
theorem tw_514 : (Cond.static ({ cls := "jdk/internal/util/Preconditions", name := "checkIndex", desc := "(IILjava/util/function/BiFunction;)I" } : MethodName)) ∈ tb_T := tb_in (i := 514) (by decide +kernel) (by decide +kernel)
theorem tw_515 : (Cond.code ({ cls := "jdk/internal/util/Preconditions", name := "checkIndex", desc := "(IILjava/util/function/BiFunction;)I" } : MethodName) prog_31_method_11_code (3 : Nat) (Option.some FieldType.int)) ∈ tb_T := tb_in (i := 515) (by decide +kernel) (by decide +kernel)
theorem tw_516 : (Cond.methodLink "java/util/ArrayList" (123 : Nat) ({ cls := "java/util/ArrayList", name := "elementData", desc := "(I)Ljava/lang/Object;" } : MethodName)) ∈ tb_T := tb_in (i := 516) (by decide +kernel) (by decide +kernel)
theorem tw_517 : (Cond.instanceMethod ({ cls := "java/util/ArrayList", name := "elementData", desc := "(I)Ljava/lang/Object;" } : MethodName)) ∈ tb_T := tb_in (i := 517) (by decide +kernel) (by decide +kernel)
theorem tw_518 : (Cond.selects "java/util/ArrayList" ({ cls := "java/util/ArrayList", name := "elementData", desc := "(I)Ljava/lang/Object;" } : MethodName) ({ cls := "java/util/ArrayList", name := "elementData", desc := "(I)Ljava/lang/Object;" } : MethodName)) ∈ tb_T := tb_in (i := 518) (by decide +kernel) (by decide +kernel)
theorem tw_519 : (Cond.code ({ cls := "java/util/ArrayList", name := "elementData", desc := "(I)Ljava/lang/Object;" } : MethodName) prog_23_method_18_code (2 : Nat) (Option.some (FieldType.object "java/lang/Object"))) ∈ tb_T := tb_in (i := 519) (by decide +kernel) (by decide +kernel)
theorem tw_520 : (Cond.classLink "MessageHub$Parcel" (10 : Nat) "MessageHub$Parcel") ∈ tb_T := tb_in (i := 520) (by decide +kernel) (by decide +kernel)
theorem tw_521 : (Cond.methodLink "MessageHub$Client" (97 : Nat) ({ cls := "java/util/ArrayList", name := "size", desc := "()I" } : MethodName)) ∈ tb_T := tb_in (i := 521) (by decide +kernel) (by decide +kernel)
theorem tw_522 : (Cond.methodLink "MessageHub$Client" (120 : Nat) ({ cls := "java/util/ArrayList", name := "get", desc := "(I)Ljava/lang/Object;" } : MethodName)) ∈ tb_T := tb_in (i := 522) (by decide +kernel) (by decide +kernel)
theorem tw_523 : (Cond.methodLink "MessageHub$Client" (159 : Nat) ({ cls := "MessageHub$Parcel", name := "leastFreeId", desc := "(Ljava/util/ArrayList;)I" } : MethodName)) ∈ tb_T := tb_in (i := 523) (by decide +kernel) (by decide +kernel)
theorem tw_524 : (Cond.static ({ cls := "MessageHub$Parcel", name := "leastFreeId", desc := "(Ljava/util/ArrayList;)I" } : MethodName)) ∈ tb_T := tb_in (i := 524) (by decide +kernel) (by decide +kernel)
theorem tw_525 : (Cond.code ({ cls := "MessageHub$Parcel", name := "leastFreeId", desc := "(Ljava/util/ArrayList;)I" } : MethodName) prog_9_method_6_code (3 : Nat) (Option.some FieldType.int)) ∈ tb_T := tb_in (i := 525) (by decide +kernel) (by decide +kernel)
theorem tw_526 : (Cond.methodLink "MessageHub$Client" (162 : Nat) ({ cls := "MessageHub$Parcel", name := "start", desc := "(I)V" } : MethodName)) ∈ tb_T := tb_in (i := 526) (by decide +kernel) (by decide +kernel)
theorem tw_527 : (Cond.instanceMethod ({ cls := "MessageHub$Parcel", name := "start", desc := "(I)V" } : MethodName)) ∈ tb_T := tb_in (i := 527) (by decide +kernel) (by decide +kernel)
theorem tw_528 : (Cond.selects "MessageHub$Parcel" ({ cls := "MessageHub$Parcel", name := "start", desc := "(I)V" } : MethodName) ({ cls := "MessageHub$Parcel", name := "start", desc := "(I)V" } : MethodName)) ∈ tb_T := tb_in (i := 528) (by decide +kernel) (by decide +kernel)
theorem tw_529 : (Cond.code ({ cls := "MessageHub$Parcel", name := "start", desc := "(I)V" } : MethodName) prog_9_method_2_code (2 : Nat) (Option.none : Option FieldType)) ∈ tb_T := tb_in (i := 529) (by decide +kernel) (by decide +kernel)
theorem tw_530 : (Cond.methodLink "MessageHub$Client" (170 : Nat) ({ cls := "MessageHub$Packet", name := "ofMessage", desc := "(LMessageHub$Message;IZ)LMessageHub$Packet;" } : MethodName)) ∈ tb_T := tb_in (i := 530) (by decide +kernel) (by decide +kernel)
theorem tw_531 : (Cond.methodLink "MessageHubLaw" (53 : Nat) ({ cls := "MessageHub", name := "deliver", desc := "(IZ)I" } : MethodName)) ∈ tb_T := tb_in (i := 531) (by decide +kernel) (by decide +kernel)
theorem tw_532 : (Cond.instanceMethod ({ cls := "MessageHub", name := "deliver", desc := "(IZ)I" } : MethodName)) ∈ tb_T := tb_in (i := 532) (by decide +kernel) (by decide +kernel)
theorem tw_533 : (Cond.selects "MessageHub" ({ cls := "MessageHub", name := "deliver", desc := "(IZ)I" } : MethodName) ({ cls := "MessageHub", name := "deliver", desc := "(IZ)I" } : MethodName)) ∈ tb_T := tb_in (i := 533) (by decide +kernel) (by decide +kernel)
theorem tw_534 : (Cond.code ({ cls := "MessageHub", name := "deliver", desc := "(IZ)I" } : MethodName) prog_1_method_10_code (6 : Nat) (Option.some FieldType.int)) ∈ tb_T := tb_in (i := 534) (by decide +kernel) (by decide +kernel)
theorem tw_535 : (Cond.methodLink "MessageHub" (108 : Nat) ({ cls := "MessageHub$Link", name := "row", desc := "(Z)Ljava/util/ArrayList;" } : MethodName)) ∈ tb_T := tb_in (i := 535) (by decide +kernel) (by decide +kernel)
theorem tw_536 : (Cond.instanceMethod ({ cls := "MessageHub$Link", name := "row", desc := "(Z)Ljava/util/ArrayList;" } : MethodName)) ∈ tb_T := tb_in (i := 536) (by decide +kernel) (by decide +kernel)
theorem tw_537 : (Cond.selects "MessageHub$Link" ({ cls := "MessageHub$Link", name := "row", desc := "(Z)Ljava/util/ArrayList;" } : MethodName) ({ cls := "MessageHub$Link", name := "row", desc := "(Z)Ljava/util/ArrayList;" } : MethodName)) ∈ tb_T := tb_in (i := 537) (by decide +kernel) (by decide +kernel)
theorem tw_538 : (Cond.code ({ cls := "MessageHub$Link", name := "row", desc := "(Z)Ljava/util/ArrayList;" } : MethodName) prog_6_method_2_code (2 : Nat) (Option.some (FieldType.object "java/util/ArrayList"))) ∈ tb_T := tb_in (i := 538) (by decide +kernel) (by decide +kernel)
theorem tw_539 : (Cond.methodLink "MessageHub" (112 : Nat) ({ cls := "java/util/ArrayList", name := "isEmpty", desc := "()Z" } : MethodName)) ∈ tb_T := tb_in (i := 539) (by decide +kernel) (by decide +kernel)
theorem tw_540 : (Cond.instanceMethod ({ cls := "java/util/ArrayList", name := "isEmpty", desc := "()Z" } : MethodName)) ∈ tb_T := tb_in (i := 540) (by decide +kernel) (by decide +kernel)
theorem tw_541 : (Cond.selects "java/util/ArrayList" ({ cls := "java/util/ArrayList", name := "isEmpty", desc := "()Z" } : MethodName) ({ cls := "java/util/ArrayList", name := "isEmpty", desc := "()Z" } : MethodName)) ∈ tb_T := tb_in (i := 541) (by decide +kernel) (by decide +kernel)
theorem tw_542 : (Cond.code ({ cls := "java/util/ArrayList", name := "isEmpty", desc := "()Z" } : MethodName) prog_23_method_9_code (1 : Nat) (Option.some FieldType.boolean)) ∈ tb_T := tb_in (i := 542) (by decide +kernel) (by decide +kernel)
theorem tw_543 : (Cond.methodLink "MessageHub" (120 : Nat) ({ cls := "java/util/ArrayList", name := "remove", desc := "(I)Ljava/lang/Object;" } : MethodName)) ∈ tb_T := tb_in (i := 543) (by decide +kernel) (by decide +kernel)
theorem tw_544 : (Cond.instanceMethod ({ cls := "java/util/ArrayList", name := "remove", desc := "(I)Ljava/lang/Object;" } : MethodName)) ∈ tb_T := tb_in (i := 544) (by decide +kernel) (by decide +kernel)
theorem tw_545 : (Cond.selects "java/util/ArrayList" ({ cls := "java/util/ArrayList", name := "remove", desc := "(I)Ljava/lang/Object;" } : MethodName) ({ cls := "java/util/ArrayList", name := "remove", desc := "(I)Ljava/lang/Object;" } : MethodName)) ∈ tb_T := tb_in (i := 545) (by decide +kernel) (by decide +kernel)
theorem tw_546 : (Cond.code ({ cls := "java/util/ArrayList", name := "remove", desc := "(I)Ljava/lang/Object;" } : MethodName) prog_23_method_29_code (4 : Nat) (Option.some (FieldType.object "java/lang/Object"))) ∈ tb_T := tb_in (i := 546) (by decide +kernel) (by decide +kernel)
theorem tw_547 : (Cond.methodLink "java/util/ArrayList" (144 : Nat) ({ cls := "java/util/ArrayList", name := "fastRemove", desc := "([Ljava/lang/Object;I)V" } : MethodName)) ∈ tb_T := tb_in (i := 547) (by decide +kernel) (by decide +kernel)
theorem tw_549 : (Cond.instanceMethod ({ cls := "java/util/ArrayList", name := "fastRemove", desc := "([Ljava/lang/Object;I)V" } : MethodName)) ∈ tb_T := tb_in (i := 549) (by decide +kernel) (by decide +kernel)
theorem tw_550 : (Cond.code ({ cls := "java/util/ArrayList", name := "fastRemove", desc := "([Ljava/lang/Object;I)V" } : MethodName) prog_23_method_39_code (4 : Nat) (Option.none : Option FieldType)) ∈ tb_T := tb_in (i := 550) (by decide +kernel) (by decide +kernel)
theorem tw_551 : (Cond.methodLink "java/util/ArrayList" (112 : Nat) ({ cls := "java/lang/System", name := "arraycopy", desc := "(Ljava/lang/Object;ILjava/lang/Object;II)V" } : MethodName)) ∈ tb_T := tb_in (i := 551) (by decide +kernel) (by decide +kernel)
theorem tw_552 : (Cond.methodLink "MessageHub" (124 : Nat) ({ cls := "MessageHub$Client", name := "receive", desc := "(LMessageHub$Packet;)V" } : MethodName)) ∈ tb_T := tb_in (i := 552) (by decide +kernel) (by decide +kernel)
theorem tw_553 : (Cond.instanceMethod ({ cls := "MessageHub$Client", name := "receive", desc := "(LMessageHub$Packet;)V" } : MethodName)) ∈ tb_T := tb_in (i := 553) (by decide +kernel) (by decide +kernel)
theorem tw_554 : (Cond.selects "MessageHub$Client" ({ cls := "MessageHub$Client", name := "receive", desc := "(LMessageHub$Packet;)V" } : MethodName) ({ cls := "MessageHub$Client", name := "receive", desc := "(LMessageHub$Packet;)V" } : MethodName)) ∈ tb_T := tb_in (i := 554) (by decide +kernel) (by decide +kernel)
theorem tw_555 : (Cond.code ({ cls := "MessageHub$Client", name := "receive", desc := "(LMessageHub$Packet;)V" } : MethodName) prog_3_method_5_code (2 : Nat) (Option.none : Option FieldType)) ∈ tb_T := tb_in (i := 555) (by decide +kernel) (by decide +kernel)
theorem tw_556 : (Cond.methodLink "MessageHub$Client" (70 : Nat) ({ cls := "MessageHub$Client", name := "receiveConnack", desc := "(LMessageHub$Packet;)V" } : MethodName)) ∈ tb_T := tb_in (i := 556) (by decide +kernel) (by decide +kernel)
theorem tw_558 : (Cond.instanceMethod ({ cls := "MessageHub$Client", name := "receiveConnack", desc := "(LMessageHub$Packet;)V" } : MethodName)) ∈ tb_T := tb_in (i := 558) (by decide +kernel) (by decide +kernel)
theorem tw_559 : (Cond.code ({ cls := "MessageHub$Client", name := "receiveConnack", desc := "(LMessageHub$Packet;)V" } : MethodName) prog_3_method_8_code (2 : Nat) (Option.none : Option FieldType)) ∈ tb_T := tb_in (i := 559) (by decide +kernel) (by decide +kernel)
theorem tw_560 : (Cond.methodLink "MessageHub$Client" (111 : Nat) ({ cls := "MessageHub$HeldIds", name := "clear", desc := "()V" } : MethodName)) ∈ tb_T := tb_in (i := 560) (by decide +kernel) (by decide +kernel)
theorem tw_561 : (Cond.instanceMethod ({ cls := "MessageHub$HeldIds", name := "clear", desc := "()V" } : MethodName)) ∈ tb_T := tb_in (i := 561) (by decide +kernel) (by decide +kernel)
theorem tw_562 : (Cond.selects "MessageHub$HeldIds" ({ cls := "MessageHub$HeldIds", name := "clear", desc := "()V" } : MethodName) ({ cls := "MessageHub$HeldIds", name := "clear", desc := "()V" } : MethodName)) ∈ tb_T := tb_in (i := 562) (by decide +kernel) (by decide +kernel)
theorem tw_563 : (Cond.code ({ cls := "MessageHub$HeldIds", name := "clear", desc := "()V" } : MethodName) prog_5_method_5_code (1 : Nat) (Option.none : Option FieldType)) ∈ tb_T := tb_in (i := 563) (by decide +kernel) (by decide +kernel)
theorem tw_564 : (Cond.methodLink "MessageHub$Client" (114 : Nat) ({ cls := "MessageHub$Client", name := "startOver", desc := "()V" } : MethodName)) ∈ tb_T := tb_in (i := 564) (by decide +kernel) (by decide +kernel)
theorem tw_566 : (Cond.instanceMethod ({ cls := "MessageHub$Client", name := "startOver", desc := "()V" } : MethodName)) ∈ tb_T := tb_in (i := 566) (by decide +kernel) (by decide +kernel)
theorem tw_567 : (Cond.code ({ cls := "MessageHub$Client", name := "startOver", desc := "()V" } : MethodName) prog_3_method_9_code (2 : Nat) (Option.none : Option FieldType)) ∈ tb_T := tb_in (i := 567) (by decide +kernel) (by decide +kernel)
theorem tw_568 : (Cond.methodLink "MessageHub$Client" (127 : Nat) ({ cls := "java/util/ArrayList", name := "remove", desc := "(I)Ljava/lang/Object;" } : MethodName)) ∈ tb_T := tb_in (i := 568) (by decide +kernel) (by decide +kernel)
theorem tw_569 : (Cond.methodLink "MessageHub$Client" (130 : Nat) ({ cls := "MessageHub$Parcel", name := "waitAgain", desc := "()V" } : MethodName)) ∈ tb_T := tb_in (i := 569) (by decide +kernel) (by decide +kernel)
theorem tw_570 : (Cond.instanceMethod ({ cls := "MessageHub$Parcel", name := "waitAgain", desc := "()V" } : MethodName)) ∈ tb_T := tb_in (i := 570) (by decide +kernel) (by decide +kernel)
theorem tw_571 : (Cond.selects "MessageHub$Parcel" ({ cls := "MessageHub$Parcel", name := "waitAgain", desc := "()V" } : MethodName) ({ cls := "MessageHub$Parcel", name := "waitAgain", desc := "()V" } : MethodName)) ∈ tb_T := tb_in (i := 571) (by decide +kernel) (by decide +kernel)
theorem tw_572 : (Cond.code ({ cls := "MessageHub$Parcel", name := "waitAgain", desc := "()V" } : MethodName) prog_9_method_3_code (1 : Nat) (Option.none : Option FieldType)) ∈ tb_T := tb_in (i := 572) (by decide +kernel) (by decide +kernel)
theorem tw_573 : (Cond.methodLink "MessageHub$Client" (117 : Nat) ({ cls := "MessageHub$Client", name := "sendAgain", desc := "()V" } : MethodName)) ∈ tb_T := tb_in (i := 573) (by decide +kernel) (by decide +kernel)
theorem tw_575 : (Cond.instanceMethod ({ cls := "MessageHub$Client", name := "sendAgain", desc := "()V" } : MethodName)) ∈ tb_T := tb_in (i := 575) (by decide +kernel) (by decide +kernel)
theorem tw_576 : (Cond.code ({ cls := "MessageHub$Client", name := "sendAgain", desc := "()V" } : MethodName) prog_3_method_10_code (2 : Nat) (Option.none : Option FieldType)) ∈ tb_T := tb_in (i := 576) (by decide +kernel) (by decide +kernel)
theorem tw_577 : (Cond.methodLink "MessageHub$Client" (133 : Nat) ({ cls := "MessageHub$Parcel", name := "repeatedPacket", desc := "()LMessageHub$Packet;" } : MethodName)) ∈ tb_T := tb_in (i := 577) (by decide +kernel) (by decide +kernel)
theorem tw_578 : (Cond.instanceMethod ({ cls := "MessageHub$Parcel", name := "repeatedPacket", desc := "()LMessageHub$Packet;" } : MethodName)) ∈ tb_T := tb_in (i := 578) (by decide +kernel) (by decide +kernel)
theorem tw_579 : (Cond.selects "MessageHub$Parcel" ({ cls := "MessageHub$Parcel", name := "repeatedPacket", desc := "()LMessageHub$Packet;" } : MethodName) ({ cls := "MessageHub$Parcel", name := "repeatedPacket", desc := "()LMessageHub$Packet;" } : MethodName)) ∈ tb_T := tb_in (i := 579) (by decide +kernel) (by decide +kernel)
theorem tw_580 : (Cond.code ({ cls := "MessageHub$Parcel", name := "repeatedPacket", desc := "()LMessageHub$Packet;" } : MethodName) prog_9_method_4_code (1 : Nat) (Option.some (FieldType.object "MessageHub$Packet"))) ∈ tb_T := tb_in (i := 580) (by decide +kernel) (by decide +kernel)
theorem tw_581 : (Cond.methodLink "MessageHub$Parcel" (22 : Nat) ({ cls := "MessageHub$Packet", name := "ofMessage", desc := "(LMessageHub$Message;IZ)LMessageHub$Packet;" } : MethodName)) ∈ tb_T := tb_in (i := 581) (by decide +kernel) (by decide +kernel)
theorem tw_582 : (Cond.classLink "MessageHub$Parcel" (23 : Nat) "MessageHub$Packet") ∈ tb_T := tb_in (i := 582) (by decide +kernel) (by decide +kernel)
theorem tw_583 : (Cond.methodLink "MessageHub$Parcel" (28 : Nat) ({ cls := "MessageHub$Packet", name := "<init>", desc := "(III)V" } : MethodName)) ∈ tb_T := tb_in (i := 583) (by decide +kernel) (by decide +kernel)
theorem tw_584 : (Cond.methodLink "MessageHub$Client" (74 : Nat) ({ cls := "MessageHub$Client", name := "receivePublish", desc := "(LMessageHub$Packet;)V" } : MethodName)) ∈ tb_T := tb_in (i := 584) (by decide +kernel) (by decide +kernel)
theorem tw_586 : (Cond.instanceMethod ({ cls := "MessageHub$Client", name := "receivePublish", desc := "(LMessageHub$Packet;)V" } : MethodName)) ∈ tb_T := tb_in (i := 586) (by decide +kernel) (by decide +kernel)
theorem tw_587 : (Cond.code ({ cls := "MessageHub$Client", name := "receivePublish", desc := "(LMessageHub$Packet;)V" } : MethodName) prog_3_method_11_code (2 : Nat) (Option.none : Option FieldType)) ∈ tb_T := tb_in (i := 587) (by decide +kernel) (by decide +kernel)
theorem tw_588 : (Cond.methodLink "MessageHub$Client" (140 : Nat) ({ cls := "MessageHub$HeldIds", name := "has", desc := "(I)Z" } : MethodName)) ∈ tb_T := tb_in (i := 588) (by decide +kernel) (by decide +kernel)
theorem tw_589 : (Cond.instanceMethod ({ cls := "MessageHub$HeldIds", name := "has", desc := "(I)Z" } : MethodName)) ∈ tb_T := tb_in (i := 589) (by decide +kernel) (by decide +kernel)
theorem tw_590 : (Cond.selects "MessageHub$HeldIds" ({ cls := "MessageHub$HeldIds", name := "has", desc := "(I)Z" } : MethodName) ({ cls := "MessageHub$HeldIds", name := "has", desc := "(I)Z" } : MethodName)) ∈ tb_T := tb_in (i := 590) (by decide +kernel) (by decide +kernel)
theorem tw_591 : (Cond.code ({ cls := "MessageHub$HeldIds", name := "has", desc := "(I)Z" } : MethodName) prog_5_method_2_code (2 : Nat) (Option.some FieldType.boolean)) ∈ tb_T := tb_in (i := 591) (by decide +kernel) (by decide +kernel)
theorem tw_592 : (Cond.methodLink "MessageHub$Client" (144 : Nat) ({ cls := "MessageHub$Client", name := "putIntoInbox", desc := "(I)V" } : MethodName)) ∈ tb_T := tb_in (i := 592) (by decide +kernel) (by decide +kernel)
theorem tw_594 : (Cond.instanceMethod ({ cls := "MessageHub$Client", name := "putIntoInbox", desc := "(I)V" } : MethodName)) ∈ tb_T := tb_in (i := 594) (by decide +kernel) (by decide +kernel)
theorem tw_595 : (Cond.code ({ cls := "MessageHub$Client", name := "putIntoInbox", desc := "(I)V" } : MethodName) prog_3_method_14_code (2 : Nat) (Option.none : Option FieldType)) ∈ tb_T := tb_in (i := 595) (by decide +kernel) (by decide +kernel)
theorem tw_597 : (Cond.classLink "MessageHub$Client" (50 : Nat) "MessageHub$Packet") ∈ tb_T := tb_in (i := 597) (by decide +kernel) (by decide +kernel)
theorem tw_598 : (Cond.methodLink "MessageHub$Client" (148 : Nat) ({ cls := "MessageHub$Packet", name := "<init>", desc := "(III)V" } : MethodName)) ∈ tb_T := tb_in (i := 598) (by decide +kernel) (by decide +kernel)
theorem tw_599 : (Cond.methodLink "MessageHub$Client" (151 : Nat) ({ cls := "MessageHub$HeldIds", name := "add", desc := "(I)V" } : MethodName)) ∈ tb_T := tb_in (i := 599) (by decide +kernel) (by decide +kernel)
theorem tw_600 : (Cond.instanceMethod ({ cls := "MessageHub$HeldIds", name := "add", desc := "(I)V" } : MethodName)) ∈ tb_T := tb_in (i := 600) (by decide +kernel) (by decide +kernel)
theorem tw_601 : (Cond.selects "MessageHub$HeldIds" ({ cls := "MessageHub$HeldIds", name := "add", desc := "(I)V" } : MethodName) ({ cls := "MessageHub$HeldIds", name := "add", desc := "(I)V" } : MethodName)) ∈ tb_T := tb_in (i := 601) (by decide +kernel) (by decide +kernel)
theorem tw_602 : (Cond.code ({ cls := "MessageHub$HeldIds", name := "add", desc := "(I)V" } : MethodName) prog_5_method_3_code (2 : Nat) (Option.none : Option FieldType)) ∈ tb_T := tb_in (i := 602) (by decide +kernel) (by decide +kernel)
theorem tw_603 : (Cond.methodLink "MessageHub$Client" (77 : Nat) ({ cls := "MessageHub$Client", name := "receivePubrel", desc := "(LMessageHub$Packet;)V" } : MethodName)) ∈ tb_T := tb_in (i := 603) (by decide +kernel) (by decide +kernel)
theorem tw_605 : (Cond.instanceMethod ({ cls := "MessageHub$Client", name := "receivePubrel", desc := "(LMessageHub$Packet;)V" } : MethodName)) ∈ tb_T := tb_in (i := 605) (by decide +kernel) (by decide +kernel)
theorem tw_606 : (Cond.code ({ cls := "MessageHub$Client", name := "receivePubrel", desc := "(LMessageHub$Packet;)V" } : MethodName) prog_3_method_12_code (2 : Nat) (Option.none : Option FieldType)) ∈ tb_T := tb_in (i := 606) (by decide +kernel) (by decide +kernel)
theorem tw_607 : (Cond.methodLink "MessageHub$Client" (153 : Nat) ({ cls := "MessageHub$HeldIds", name := "remove", desc := "(I)V" } : MethodName)) ∈ tb_T := tb_in (i := 607) (by decide +kernel) (by decide +kernel)
theorem tw_608 : (Cond.instanceMethod ({ cls := "MessageHub$HeldIds", name := "remove", desc := "(I)V" } : MethodName)) ∈ tb_T := tb_in (i := 608) (by decide +kernel) (by decide +kernel)
theorem tw_609 : (Cond.selects "MessageHub$HeldIds" ({ cls := "MessageHub$HeldIds", name := "remove", desc := "(I)V" } : MethodName) ({ cls := "MessageHub$HeldIds", name := "remove", desc := "(I)V" } : MethodName)) ∈ tb_T := tb_in (i := 609) (by decide +kernel) (by decide +kernel)
theorem tw_610 : (Cond.code ({ cls := "MessageHub$HeldIds", name := "remove", desc := "(I)V" } : MethodName) prog_5_method_4_code (2 : Nat) (Option.none : Option FieldType)) ∈ tb_T := tb_in (i := 610) (by decide +kernel) (by decide +kernel)
theorem tw_611 : (Cond.methodLink "MessageHub$Client" (83 : Nat) ({ cls := "MessageHub$Parcel", name := "finish", desc := "(Ljava/util/ArrayList;III)V" } : MethodName)) ∈ tb_T := tb_in (i := 611) (by decide +kernel) (by decide +kernel)
theorem tw_612 : (Cond.static ({ cls := "MessageHub$Parcel", name := "finish", desc := "(Ljava/util/ArrayList;III)V" } : MethodName)) ∈ tb_T := tb_in (i := 612) (by decide +kernel) (by decide +kernel)
theorem tw_613 : (Cond.code ({ cls := "MessageHub$Parcel", name := "finish", desc := "(Ljava/util/ArrayList;III)V" } : MethodName) prog_9_method_7_code (6 : Nat) (Option.none : Option FieldType)) ∈ tb_T := tb_in (i := 613) (by decide +kernel) (by decide +kernel)
theorem tw_614 : (Cond.methodLink "MessageHub$Parcel" (46 : Nat) ({ cls := "java/util/ArrayList", name := "remove", desc := "(I)Ljava/lang/Object;" } : MethodName)) ∈ tb_T := tb_in (i := 614) (by decide +kernel) (by decide +kernel)
theorem tw_615 : (Cond.methodLink "MessageHub$Client" (87 : Nat) ({ cls := "MessageHub$Client", name := "receivePubrec", desc := "(LMessageHub$Packet;)V" } : MethodName)) ∈ tb_T := tb_in (i := 615) (by decide +kernel) (by decide +kernel)
theorem tw_617 : (Cond.instanceMethod ({ cls := "MessageHub$Client", name := "receivePubrec", desc := "(LMessageHub$Packet;)V" } : MethodName)) ∈ tb_T := tb_in (i := 617) (by decide +kernel) (by decide +kernel)
theorem tw_618 : (Cond.code ({ cls := "MessageHub$Client", name := "receivePubrec", desc := "(LMessageHub$Packet;)V" } : MethodName) prog_3_method_13_code (2 : Nat) (Option.none : Option FieldType)) ∈ tb_T := tb_in (i := 618) (by decide +kernel) (by decide +kernel)
theorem tw_619 : (Cond.methodLink "MessageHub$Client" (155 : Nat) ({ cls := "MessageHub$Parcel", name := "release", desc := "(Ljava/util/ArrayList;I)Z" } : MethodName)) ∈ tb_T := tb_in (i := 619) (by decide +kernel) (by decide +kernel)
theorem tw_620 : (Cond.static ({ cls := "MessageHub$Parcel", name := "release", desc := "(Ljava/util/ArrayList;I)Z" } : MethodName)) ∈ tb_T := tb_in (i := 620) (by decide +kernel) (by decide +kernel)
theorem tw_621 : (Cond.code ({ cls := "MessageHub$Parcel", name := "release", desc := "(Ljava/util/ArrayList;I)Z" } : MethodName) prog_9_method_8_code (4 : Nat) (Option.some FieldType.boolean)) ∈ tb_T := tb_in (i := 621) (by decide +kernel) (by decide +kernel)
theorem tw_622 : (Cond.methodLink "MessageHub" (131 : Nat) ({ cls := "MessageHub$Broker", name := "takeFailure", desc := "()I" } : MethodName)) ∈ tb_T := tb_in (i := 622) (by decide +kernel) (by decide +kernel)
theorem tw_623 : (Cond.instanceMethod ({ cls := "MessageHub$Broker", name := "takeFailure", desc := "()I" } : MethodName)) ∈ tb_T := tb_in (i := 623) (by decide +kernel) (by decide +kernel)
theorem tw_624 : (Cond.selects "MessageHub$Broker" ({ cls := "MessageHub$Broker", name := "takeFailure", desc := "()I" } : MethodName) ({ cls := "MessageHub$Broker", name := "takeFailure", desc := "()I" } : MethodName)) ∈ tb_T := tb_in (i := 624) (by decide +kernel) (by decide +kernel)
theorem tw_625 : (Cond.code ({ cls := "MessageHub$Broker", name := "takeFailure", desc := "()I" } : MethodName) prog_2_method_2_code (2 : Nat) (Option.some FieldType.int)) ∈ tb_T := tb_in (i := 625) (by decide +kernel) (by decide +kernel)
theorem tw_626 : (Cond.methodLink "MessageHub" (134 : Nat) ({ cls := "MessageHub$Broker", name := "receive", desc := "(ILMessageHub$Packet;)V" } : MethodName)) ∈ tb_T := tb_in (i := 626) (by decide +kernel) (by decide +kernel)
theorem tw_627 : (Cond.instanceMethod ({ cls := "MessageHub$Broker", name := "receive", desc := "(ILMessageHub$Packet;)V" } : MethodName)) ∈ tb_T := tb_in (i := 627) (by decide +kernel) (by decide +kernel)
theorem tw_628 : (Cond.selects "MessageHub$Broker" ({ cls := "MessageHub$Broker", name := "receive", desc := "(ILMessageHub$Packet;)V" } : MethodName) ({ cls := "MessageHub$Broker", name := "receive", desc := "(ILMessageHub$Packet;)V" } : MethodName)) ∈ tb_T := tb_in (i := 628) (by decide +kernel) (by decide +kernel)
theorem tw_629 : (Cond.code ({ cls := "MessageHub$Broker", name := "receive", desc := "(ILMessageHub$Packet;)V" } : MethodName) prog_2_method_6_code (3 : Nat) (Option.none : Option FieldType)) ∈ tb_T := tb_in (i := 629) (by decide +kernel) (by decide +kernel)
theorem tw_630 : (Cond.methodLink "MessageHub$Broker" (56 : Nat) ({ cls := "MessageHub$Broker", name := "closeAbruptly", desc := "(I)V" } : MethodName)) ∈ tb_T := tb_in (i := 630) (by decide +kernel) (by decide +kernel)
theorem tw_632 : (Cond.instanceMethod ({ cls := "MessageHub$Broker", name := "closeAbruptly", desc := "(I)V" } : MethodName)) ∈ tb_T := tb_in (i := 632) (by decide +kernel) (by decide +kernel)
theorem tw_633 : (Cond.code ({ cls := "MessageHub$Broker", name := "closeAbruptly", desc := "(I)V" } : MethodName) prog_2_method_15_code (2 : Nat) (Option.none : Option FieldType)) ∈ tb_T := tb_in (i := 633) (by decide +kernel) (by decide +kernel)
theorem tw_634 : (Cond.methodLink "MessageHub$Broker" (131 : Nat) ({ cls := "MessageHub$Broker", name := "closeNormally", desc := "(I)V" } : MethodName)) ∈ tb_T := tb_in (i := 634) (by decide +kernel) (by decide +kernel)
theorem tw_636 : (Cond.instanceMethod ({ cls := "MessageHub$Broker", name := "closeNormally", desc := "(I)V" } : MethodName)) ∈ tb_T := tb_in (i := 636) (by decide +kernel) (by decide +kernel)
theorem tw_637 : (Cond.code ({ cls := "MessageHub$Broker", name := "closeNormally", desc := "(I)V" } : MethodName) prog_2_method_14_code (2 : Nat) (Option.none : Option FieldType)) ∈ tb_T := tb_in (i := 637) (by decide +kernel) (by decide +kernel)
theorem tw_638 : (Cond.methodLink "MessageHub$Broker" (44 : Nat) ({ cls := "MessageHub$Link", name := "close", desc := "()V" } : MethodName)) ∈ tb_T := tb_in (i := 638) (by decide +kernel) (by decide +kernel)
theorem tw_639 : (Cond.methodLink "MessageHub$Broker" (49 : Nat) ({ cls := "MessageHub$Session", name := "outlive", desc := "()V" } : MethodName)) ∈ tb_T := tb_in (i := 639) (by decide +kernel) (by decide +kernel)
theorem tw_640 : (Cond.instanceMethod ({ cls := "MessageHub$Session", name := "outlive", desc := "()V" } : MethodName)) ∈ tb_T := tb_in (i := 640) (by decide +kernel) (by decide +kernel)
theorem tw_641 : (Cond.selects "MessageHub$Session" ({ cls := "MessageHub$Session", name := "outlive", desc := "()V" } : MethodName) ({ cls := "MessageHub$Session", name := "outlive", desc := "()V" } : MethodName)) ∈ tb_T := tb_in (i := 641) (by decide +kernel) (by decide +kernel)
theorem tw_642 : (Cond.code ({ cls := "MessageHub$Session", name := "outlive", desc := "()V" } : MethodName) prog_10_method_3_code (1 : Nat) (Option.none : Option FieldType)) ∈ tb_T := tb_in (i := 642) (by decide +kernel) (by decide +kernel)
theorem tw_643 : (Cond.methodLink "MessageHub$Session" (46 : Nat) ({ cls := "MessageHub$Session", name := "end", desc := "()V" } : MethodName)) ∈ tb_T := tb_in (i := 643) (by decide +kernel) (by decide +kernel)
theorem tw_644 : (Cond.instanceMethod ({ cls := "MessageHub$Session", name := "end", desc := "()V" } : MethodName)) ∈ tb_T := tb_in (i := 644) (by decide +kernel) (by decide +kernel)
theorem tw_645 : (Cond.selects "MessageHub$Session" ({ cls := "MessageHub$Session", name := "end", desc := "()V" } : MethodName) ({ cls := "MessageHub$Session", name := "end", desc := "()V" } : MethodName)) ∈ tb_T := tb_in (i := 645) (by decide +kernel) (by decide +kernel)
theorem tw_646 : (Cond.code ({ cls := "MessageHub$Session", name := "end", desc := "()V" } : MethodName) prog_10_method_2_code (1 : Nat) (Option.none : Option FieldType)) ∈ tb_T := tb_in (i := 646) (by decide +kernel) (by decide +kernel)
theorem tw_647 : (Cond.methodLink "MessageHub$Session" (31 : Nat) ({ cls := "java/util/ArrayList", name := "clear", desc := "()V" } : MethodName)) ∈ tb_T := tb_in (i := 647) (by decide +kernel) (by decide +kernel)
theorem tw_648 : (Cond.methodLink "MessageHub$Session" (34 : Nat) ({ cls := "MessageHub$HeldIds", name := "clear", desc := "()V" } : MethodName)) ∈ tb_T := tb_in (i := 648) (by decide +kernel) (by decide +kernel)
theorem tw_649 : (Cond.methodLink "MessageHub$Broker" (238 : Nat) ({ cls := "MessageHub$Connection", name := "hasWill", desc := "()Z" } : MethodName)) ∈ tb_T := tb_in (i := 649) (by decide +kernel) (by decide +kernel)
theorem tw_650 : (Cond.instanceMethod ({ cls := "MessageHub$Connection", name := "hasWill", desc := "()Z" } : MethodName)) ∈ tb_T := tb_in (i := 650) (by decide +kernel) (by decide +kernel)
theorem tw_651 : (Cond.selects "MessageHub$Connection" ({ cls := "MessageHub$Connection", name := "hasWill", desc := "()Z" } : MethodName) ({ cls := "MessageHub$Connection", name := "hasWill", desc := "()Z" } : MethodName)) ∈ tb_T := tb_in (i := 651) (by decide +kernel) (by decide +kernel)
theorem tw_652 : (Cond.code ({ cls := "MessageHub$Connection", name := "hasWill", desc := "()Z" } : MethodName) prog_4_method_3_code (1 : Nat) (Option.some FieldType.boolean)) ∈ tb_T := tb_in (i := 652) (by decide +kernel) (by decide +kernel)
theorem tw_653 : (Cond.methodLink "MessageHub$Broker" (241 : Nat) ({ cls := "MessageHub$Connection", name := "willMessage", desc := "()LMessageHub$Message;" } : MethodName)) ∈ tb_T := tb_in (i := 653) (by decide +kernel) (by decide +kernel)
theorem tw_654 : (Cond.instanceMethod ({ cls := "MessageHub$Connection", name := "willMessage", desc := "()LMessageHub$Message;" } : MethodName)) ∈ tb_T := tb_in (i := 654) (by decide +kernel) (by decide +kernel)
theorem tw_655 : (Cond.selects "MessageHub$Connection" ({ cls := "MessageHub$Connection", name := "willMessage", desc := "()LMessageHub$Message;" } : MethodName) ({ cls := "MessageHub$Connection", name := "willMessage", desc := "()LMessageHub$Message;" } : MethodName)) ∈ tb_T := tb_in (i := 655) (by decide +kernel) (by decide +kernel)
theorem tw_656 : (Cond.code ({ cls := "MessageHub$Connection", name := "willMessage", desc := "()LMessageHub$Message;" } : MethodName) prog_4_method_4_code (1 : Nat) (Option.some (FieldType.object "MessageHub$Message"))) ∈ tb_T := tb_in (i := 656) (by decide +kernel) (by decide +kernel)
theorem tw_657 : (Cond.classLink "MessageHub$Connection" (38 : Nat) "MessageHub$Message") ∈ tb_T := tb_in (i := 657) (by decide +kernel) (by decide +kernel)
theorem tw_658 : (Cond.methodLink "MessageHub$Connection" (40 : Nat) ({ cls := "MessageHub$Message", name := "<init>", desc := "(JIIZ)V" } : MethodName)) ∈ tb_T := tb_in (i := 658) (by decide +kernel) (by decide +kernel)
theorem tw_659 : (Cond.methodLink "MessageHub$Broker" (183 : Nat) ({ cls := "MessageHub$Broker", name := "accept", desc := "(ILMessageHub$Message;)Z" } : MethodName)) ∈ tb_T := tb_in (i := 659) (by decide +kernel) (by decide +kernel)
theorem tw_661 : (Cond.instanceMethod ({ cls := "MessageHub$Broker", name := "accept", desc := "(ILMessageHub$Message;)Z" } : MethodName)) ∈ tb_T := tb_in (i := 661) (by decide +kernel) (by decide +kernel)
theorem tw_662 : (Cond.code ({ cls := "MessageHub$Broker", name := "accept", desc := "(ILMessageHub$Message;)Z" } : MethodName) prog_2_method_16_code (4 : Nat) (Option.some FieldType.boolean)) ∈ tb_T := tb_in (i := 662) (by decide +kernel) (by decide +kernel)
theorem tw_663 : (Cond.methodLink "MessageHub$Broker" (224 : Nat) ({ cls := "MessageHub$Session", name := "load", desc := "()I" } : MethodName)) ∈ tb_T := tb_in (i := 663) (by decide +kernel) (by decide +kernel)
theorem tw_664 : (Cond.instanceMethod ({ cls := "MessageHub$Session", name := "load", desc := "()I" } : MethodName)) ∈ tb_T := tb_in (i := 664) (by decide +kernel) (by decide +kernel)
theorem tw_665 : (Cond.selects "MessageHub$Session" ({ cls := "MessageHub$Session", name := "load", desc := "()I" } : MethodName) ({ cls := "MessageHub$Session", name := "load", desc := "()I" } : MethodName)) ∈ tb_T := tb_in (i := 665) (by decide +kernel) (by decide +kernel)
theorem tw_666 : (Cond.code ({ cls := "MessageHub$Session", name := "load", desc := "()I" } : MethodName) prog_10_method_5_code (1 : Nat) (Option.some FieldType.int)) ∈ tb_T := tb_in (i := 666) (by decide +kernel) (by decide +kernel)
theorem tw_667 : (Cond.methodLink "MessageHub$Session" (49 : Nat) ({ cls := "java/util/ArrayList", name := "size", desc := "()I" } : MethodName)) ∈ tb_T := tb_in (i := 667) (by decide +kernel) (by decide +kernel)
theorem tw_668 : (Cond.methodLink "MessageHub$Broker" (245 : Nat) ({ cls := "MessageHub$Session", name := "countKept", desc := "(LMessageHub$Message;Z)I" } : MethodName)) ∈ tb_T := tb_in (i := 668) (by decide +kernel) (by decide +kernel)
theorem tw_669 : (Cond.instanceMethod ({ cls := "MessageHub$Session", name := "countKept", desc := "(LMessageHub$Message;Z)I" } : MethodName)) ∈ tb_T := tb_in (i := 669) (by decide +kernel) (by decide +kernel)
theorem tw_670 : (Cond.selects "MessageHub$Session" ({ cls := "MessageHub$Session", name := "countKept", desc := "(LMessageHub$Message;Z)I" } : MethodName) ({ cls := "MessageHub$Session", name := "countKept", desc := "(LMessageHub$Message;Z)I" } : MethodName)) ∈ tb_T := tb_in (i := 670) (by decide +kernel) (by decide +kernel)
theorem tw_671 : (Cond.code ({ cls := "MessageHub$Session", name := "countKept", desc := "(LMessageHub$Message;Z)I" } : MethodName) prog_10_method_8_code (5 : Nat) (Option.some FieldType.int)) ∈ tb_T := tb_in (i := 671) (by decide +kernel) (by decide +kernel)
theorem tw_672 : (Cond.methodLink "MessageHub$Session" (53 : Nat) ({ cls := "java/util/ArrayList", name := "get", desc := "(I)Ljava/lang/Object;" } : MethodName)) ∈ tb_T := tb_in (i := 672) (by decide +kernel) (by decide +kernel)
theorem tw_673 : (Cond.classLink "MessageHub$Session" (57 : Nat) "MessageHub$Subscription") ∈ tb_T := tb_in (i := 673) (by decide +kernel) (by decide +kernel)
theorem tw_674 : (Cond.methodLink "MessageHub$Session" (80 : Nat) ({ cls := "MessageHub$Subscription", name := "copyQuality", desc := "(LMessageHub$Message;Z)I" } : MethodName)) ∈ tb_T := tb_in (i := 674) (by decide +kernel) (by decide +kernel)
theorem tw_675 : (Cond.instanceMethod ({ cls := "MessageHub$Subscription", name := "copyQuality", desc := "(LMessageHub$Message;Z)I" } : MethodName)) ∈ tb_T := tb_in (i := 675) (by decide +kernel) (by decide +kernel)
theorem tw_676 : (Cond.selects "MessageHub$Subscription" ({ cls := "MessageHub$Subscription", name := "copyQuality", desc := "(LMessageHub$Message;Z)I" } : MethodName) ({ cls := "MessageHub$Subscription", name := "copyQuality", desc := "(LMessageHub$Message;Z)I" } : MethodName)) ∈ tb_T := tb_in (i := 676) (by decide +kernel) (by decide +kernel)
theorem tw_677 : (Cond.code ({ cls := "MessageHub$Subscription", name := "copyQuality", desc := "(LMessageHub$Message;Z)I" } : MethodName) prog_11_method_2_code (3 : Nat) (Option.some FieldType.int)) ∈ tb_T := tb_in (i := 677) (by decide +kernel) (by decide +kernel)
theorem tw_678 : (Cond.methodLink "MessageHub$Subscription" (24 : Nat) ({ cls := "MessageHub$Text", name := "covers", desc := "(JJ)Z" } : MethodName)) ∈ tb_T := tb_in (i := 678) (by decide +kernel) (by decide +kernel)
theorem tw_679 : (Cond.static ({ cls := "MessageHub$Text", name := "covers", desc := "(JJ)Z" } : MethodName)) ∈ tb_T := tb_in (i := 679) (by decide +kernel) (by decide +kernel)
theorem tw_680 : (Cond.code ({ cls := "MessageHub$Text", name := "covers", desc := "(JJ)Z" } : MethodName) prog_12_method_5_code (15 : Nat) (Option.some FieldType.boolean)) ∈ tb_T := tb_in (i := 680) (by decide +kernel) (by decide +kernel)
theorem tw_681 : (Cond.constantLong "MessageHub$Text" (23 : Nat) (43 : Int64)) ∈ tb_T := tb_in (i := 681) (by decide +kernel) (by decide +kernel)
theorem tw_682 : (Cond.constantLong "MessageHub$Text" (25 : Nat) (35 : Int64)) ∈ tb_T := tb_in (i := 682) (by decide +kernel) (by decide +kernel)
theorem tw_683 : (Cond.constantLong "MessageHub$Text" (27 : Nat) (36 : Int64)) ∈ tb_T := tb_in (i := 683) (by decide +kernel) (by decide +kernel)
theorem tw_684 : (Cond.constantLong "MessageHub$Text" (29 : Nat) (3396558543967485952 : Int64)) ∈ tb_T := tb_in (i := 684) (by decide +kernel) (by decide +kernel)
theorem tw_685 : (Cond.constantLong "MessageHub$Text" (31 : Nat) (47 : Int64)) ∈ tb_T := tb_in (i := 685) (by decide +kernel) (by decide +kernel)
theorem tw_686 : (Cond.methodLink "MessageHub$Subscription" (35 : Nat) ({ cls := "java/lang/Math", name := "min", desc := "(II)I" } : MethodName)) ∈ tb_T := tb_in (i := 686) (by decide +kernel) (by decide +kernel)
theorem tw_687 : (Cond.methodLink "MessageHub$Broker" (249 : Nat) ({ cls := "MessageHub$Broker", name := "spread", desc := "(ILMessageHub$Message;Z)V" } : MethodName)) ∈ tb_T := tb_in (i := 687) (by decide +kernel) (by decide +kernel)
theorem tw_689 : (Cond.instanceMethod ({ cls := "MessageHub$Broker", name := "spread", desc := "(ILMessageHub$Message;Z)V" } : MethodName)) ∈ tb_T := tb_in (i := 689) (by decide +kernel) (by decide +kernel)
theorem tw_690 : (Cond.code ({ cls := "MessageHub$Broker", name := "spread", desc := "(ILMessageHub$Message;Z)V" } : MethodName) prog_2_method_17_code (7 : Nat) (Option.none : Option FieldType)) ∈ tb_T := tb_in (i := 690) (by decide +kernel) (by decide +kernel)
theorem tw_691 : (Cond.methodLink "MessageHub$Broker" (144 : Nat) ({ cls := "java/util/ArrayList", name := "size", desc := "()I" } : MethodName)) ∈ tb_T := tb_in (i := 691) (by decide +kernel) (by decide +kernel)
theorem tw_692 : (Cond.methodLink "MessageHub$Broker" (67 : Nat) ({ cls := "java/util/ArrayList", name := "get", desc := "(I)Ljava/lang/Object;" } : MethodName)) ∈ tb_T := tb_in (i := 692) (by decide +kernel) (by decide +kernel)
theorem tw_693 : (Cond.classLink "MessageHub$Broker" (259 : Nat) "MessageHub$Subscription") ∈ tb_T := tb_in (i := 693) (by decide +kernel) (by decide +kernel)
theorem tw_694 : (Cond.methodLink "MessageHub$Broker" (261 : Nat) ({ cls := "MessageHub$Subscription", name := "copyQuality", desc := "(LMessageHub$Message;Z)I" } : MethodName)) ∈ tb_T := tb_in (i := 694) (by decide +kernel) (by decide +kernel)
theorem tw_695 : (Cond.methodLink "MessageHub$Broker" (217 : Nat) ({ cls := "MessageHub$Broker", name := "hasLineRoom", desc := "(I)Z" } : MethodName)) ∈ tb_T := tb_in (i := 695) (by decide +kernel) (by decide +kernel)
theorem tw_697 : (Cond.instanceMethod ({ cls := "MessageHub$Broker", name := "hasLineRoom", desc := "(I)Z" } : MethodName)) ∈ tb_T := tb_in (i := 697) (by decide +kernel) (by decide +kernel)
theorem tw_698 : (Cond.code ({ cls := "MessageHub$Broker", name := "hasLineRoom", desc := "(I)Z" } : MethodName) prog_2_method_8_code (2 : Nat) (Option.some FieldType.boolean)) ∈ tb_T := tb_in (i := 698) (by decide +kernel) (by decide +kernel)
end
section
theorem tw_699 : (Cond.methodLink "MessageHub$Broker" (209 : Nat) ({ cls := "MessageHub$Message", name := "copy", desc := "(IZ)LMessageHub$Message;" } : MethodName)) ∈ tb_T := tb_in (i := 699) (by decide +kernel) (by decide +kernel)
theorem tw_700 : (Cond.instanceMethod ({ cls := "MessageHub$Message", name := "copy", desc := "(IZ)LMessageHub$Message;" } : MethodName)) ∈ tb_T := tb_in (i := 700) (by decide +kernel) (by decide +kernel)
theorem tw_701 : (Cond.selects "MessageHub$Message" ({ cls := "MessageHub$Message", name := "copy", desc := "(IZ)LMessageHub$Message;" } : MethodName) ({ cls := "MessageHub$Message", name := "copy", desc := "(IZ)LMessageHub$Message;" } : MethodName)) ∈ tb_T := tb_in (i := 701) (by decide +kernel) (by decide +kernel)
theorem tw_702 : (Cond.code ({ cls := "MessageHub$Message", name := "copy", desc := "(IZ)LMessageHub$Message;" } : MethodName) prog_7_method_2_code (3 : Nat) (Option.some (FieldType.object "MessageHub$Message"))) ∈ tb_T := tb_in (i := 702) (by decide +kernel) (by decide +kernel)
theorem tw_703 : (Cond.classLink "MessageHub$Message" (8 : Nat) "MessageHub$Message") ∈ tb_T := tb_in (i := 703) (by decide +kernel) (by decide +kernel)
theorem tw_704 : (Cond.methodLink "MessageHub$Message" (24 : Nat) ({ cls := "MessageHub$Message", name := "<init>", desc := "(JIIZ)V" } : MethodName)) ∈ tb_T := tb_in (i := 704) (by decide +kernel) (by decide +kernel)
theorem tw_705 : (Cond.methodLink "MessageHub$Broker" (220 : Nat) ({ cls := "MessageHub$Packet", name := "ofMessage", desc := "(LMessageHub$Message;IZ)LMessageHub$Packet;" } : MethodName)) ∈ tb_T := tb_in (i := 705) (by decide +kernel) (by decide +kernel)
theorem tw_706 : (Cond.methodLink "MessageHub$Broker" (106 : Nat) ({ cls := "MessageHub$Broker", name := "send", desc := "(ILMessageHub$Packet;)V" } : MethodName)) ∈ tb_T := tb_in (i := 706) (by decide +kernel) (by decide +kernel)
theorem tw_708 : (Cond.instanceMethod ({ cls := "MessageHub$Broker", name := "send", desc := "(ILMessageHub$Packet;)V" } : MethodName)) ∈ tb_T := tb_in (i := 708) (by decide +kernel) (by decide +kernel)
theorem tw_709 : (Cond.code ({ cls := "MessageHub$Broker", name := "send", desc := "(ILMessageHub$Packet;)V" } : MethodName) prog_2_method_7_code (3 : Nat) (Option.none : Option FieldType)) ∈ tb_T := tb_in (i := 709) (by decide +kernel) (by decide +kernel)
theorem tw_710 : (Cond.methodLink "MessageHub$Broker" (140 : Nat) ({ cls := "java/util/ArrayList", name := "add", desc := "(Ljava/lang/Object;)Z" } : MethodName)) ∈ tb_T := tb_in (i := 710) (by decide +kernel) (by decide +kernel)
theorem tw_711 : (Cond.methodLink "MessageHub$Broker" (256 : Nat) ({ cls := "MessageHub$Broker", name := "retain", desc := "(LMessageHub$Message;)V" } : MethodName)) ∈ tb_T := tb_in (i := 711) (by decide +kernel) (by decide +kernel)
theorem tw_713 : (Cond.instanceMethod ({ cls := "MessageHub$Broker", name := "retain", desc := "(LMessageHub$Message;)V" } : MethodName)) ∈ tb_T := tb_in (i := 713) (by decide +kernel) (by decide +kernel)
theorem tw_714 : (Cond.code ({ cls := "MessageHub$Broker", name := "retain", desc := "(LMessageHub$Message;)V" } : MethodName) prog_2_method_19_code (3 : Nat) (Option.none : Option FieldType)) ∈ tb_T := tb_in (i := 714) (by decide +kernel) (by decide +kernel)
theorem tw_715 : (Cond.methodLink "MessageHub$Broker" (63 : Nat) ({ cls := "MessageHub$Broker", name := "findRetained", desc := "(J)I" } : MethodName)) ∈ tb_T := tb_in (i := 715) (by decide +kernel) (by decide +kernel)
theorem tw_717 : (Cond.instanceMethod ({ cls := "MessageHub$Broker", name := "findRetained", desc := "(J)I" } : MethodName)) ∈ tb_T := tb_in (i := 717) (by decide +kernel) (by decide +kernel)
theorem tw_718 : (Cond.code ({ cls := "MessageHub$Broker", name := "findRetained", desc := "(J)I" } : MethodName) prog_2_method_18_code (4 : Nat) (Option.some FieldType.int)) ∈ tb_T := tb_in (i := 718) (by decide +kernel) (by decide +kernel)
theorem tw_719 : (Cond.classLink "MessageHub$Broker" (71 : Nat) "MessageHub$Message") ∈ tb_T := tb_in (i := 719) (by decide +kernel) (by decide +kernel)
theorem tw_720 : (Cond.methodLink "MessageHub$Broker" (236 : Nat) ({ cls := "java/util/ArrayList", name := "remove", desc := "(I)Ljava/lang/Object;" } : MethodName)) ∈ tb_T := tb_in (i := 720) (by decide +kernel) (by decide +kernel)
theorem tw_721 : (Cond.methodLink "MessageHub$Broker" (264 : Nat) ({ cls := "java/util/ArrayList", name := "set", desc := "(ILjava/lang/Object;)Ljava/lang/Object;" } : MethodName)) ∈ tb_T := tb_in (i := 721) (by decide +kernel) (by decide +kernel)
theorem tw_722 : (Cond.instanceMethod ({ cls := "java/util/ArrayList", name := "set", desc := "(ILjava/lang/Object;)Ljava/lang/Object;" } : MethodName)) ∈ tb_T := tb_in (i := 722) (by decide +kernel) (by decide +kernel)
theorem tw_723 : (Cond.selects "java/util/ArrayList" ({ cls := "java/util/ArrayList", name := "set", desc := "(ILjava/lang/Object;)Ljava/lang/Object;" } : MethodName) ({ cls := "java/util/ArrayList", name := "set", desc := "(ILjava/lang/Object;)Ljava/lang/Object;" } : MethodName)) ∈ tb_T := tb_in (i := 723) (by decide +kernel) (by decide +kernel)
theorem tw_724 : (Cond.code ({ cls := "java/util/ArrayList", name := "set", desc := "(ILjava/lang/Object;)Ljava/lang/Object;" } : MethodName) prog_23_method_23_code (4 : Nat) (Option.some (FieldType.object "java/lang/Object"))) ∈ tb_T := tb_in (i := 724) (by decide +kernel) (by decide +kernel)
theorem tw_725 : (Cond.methodLink "MessageHub$Broker" (118 : Nat) ({ cls := "MessageHub$Broker", name := "pump", desc := "(I)V" } : MethodName)) ∈ tb_T := tb_in (i := 725) (by decide +kernel) (by decide +kernel)
theorem tw_727 : (Cond.instanceMethod ({ cls := "MessageHub$Broker", name := "pump", desc := "(I)V" } : MethodName)) ∈ tb_T := tb_in (i := 727) (by decide +kernel) (by decide +kernel)
theorem tw_728 : (Cond.code ({ cls := "MessageHub$Broker", name := "pump", desc := "(I)V" } : MethodName) prog_2_method_20_code (6 : Nat) (Option.none : Option FieldType)) ∈ tb_T := tb_in (i := 728) (by decide +kernel) (by decide +kernel)
theorem tw_729 : (Cond.methodLink "MessageHub$Broker" (271 : Nat) ({ cls := "java/util/ArrayList", name := "isEmpty", desc := "()Z" } : MethodName)) ∈ tb_T := tb_in (i := 729) (by decide +kernel) (by decide +kernel)
theorem tw_730 : (Cond.classLink "MessageHub$Broker" (113 : Nat) "MessageHub$Parcel") ∈ tb_T := tb_in (i := 730) (by decide +kernel) (by decide +kernel)
theorem tw_731 : (Cond.methodLink "MessageHub$Broker" (274 : Nat) ({ cls := "MessageHub$Parcel", name := "<init>", desc := "(LMessageHub$Message;)V" } : MethodName)) ∈ tb_T := tb_in (i := 731) (by decide +kernel) (by decide +kernel)
theorem tw_732 : (Cond.methodLink "MessageHub$Broker" (276 : Nat) ({ cls := "MessageHub$Parcel", name := "leastFreeId", desc := "(Ljava/util/ArrayList;)I" } : MethodName)) ∈ tb_T := tb_in (i := 732) (by decide +kernel) (by decide +kernel)
theorem tw_733 : (Cond.methodLink "MessageHub$Broker" (280 : Nat) ({ cls := "MessageHub$Parcel", name := "start", desc := "(I)V" } : MethodName)) ∈ tb_T := tb_in (i := 733) (by decide +kernel) (by decide +kernel)
theorem tw_734 : (Cond.methodLink "MessageHub$Broker" (84 : Nat) ({ cls := "MessageHub$Broker", name := "receiveConnect", desc := "(ILMessageHub$Packet;)V" } : MethodName)) ∈ tb_T := tb_in (i := 734) (by decide +kernel) (by decide +kernel)
theorem tw_736 : (Cond.instanceMethod ({ cls := "MessageHub$Broker", name := "receiveConnect", desc := "(ILMessageHub$Packet;)V" } : MethodName)) ∈ tb_T := tb_in (i := 736) (by decide +kernel) (by decide +kernel)
theorem tw_737 : (Cond.code ({ cls := "MessageHub$Broker", name := "receiveConnect", desc := "(ILMessageHub$Packet;)V" } : MethodName) prog_2_method_9_code (5 : Nat) (Option.none : Option FieldType)) ∈ tb_T := tb_in (i := 737) (by decide +kernel) (by decide +kernel)
theorem tw_738 : (Cond.methodLink "MessageHub$Broker" (148 : Nat) ({ cls := "MessageHub$Connection", name := "begin", desc := "(LMessageHub$Packet;)V" } : MethodName)) ∈ tb_T := tb_in (i := 738) (by decide +kernel) (by decide +kernel)
theorem tw_739 : (Cond.instanceMethod ({ cls := "MessageHub$Connection", name := "begin", desc := "(LMessageHub$Packet;)V" } : MethodName)) ∈ tb_T := tb_in (i := 739) (by decide +kernel) (by decide +kernel)
theorem tw_740 : (Cond.selects "MessageHub$Connection" ({ cls := "MessageHub$Connection", name := "begin", desc := "(LMessageHub$Packet;)V" } : MethodName) ({ cls := "MessageHub$Connection", name := "begin", desc := "(LMessageHub$Packet;)V" } : MethodName)) ∈ tb_T := tb_in (i := 740) (by decide +kernel) (by decide +kernel)
theorem tw_741 : (Cond.code ({ cls := "MessageHub$Connection", name := "begin", desc := "(LMessageHub$Packet;)V" } : MethodName) prog_4_method_2_code (2 : Nat) (Option.none : Option FieldType)) ∈ tb_T := tb_in (i := 741) (by decide +kernel) (by decide +kernel)
theorem tw_742 : (Cond.methodLink "MessageHub$Broker" (155 : Nat) ({ cls := "MessageHub$Session", name := "end", desc := "()V" } : MethodName)) ∈ tb_T := tb_in (i := 742) (by decide +kernel) (by decide +kernel)
theorem tw_743 : (Cond.classLink "MessageHub$Broker" (80 : Nat) "MessageHub$Packet") ∈ tb_T := tb_in (i := 743) (by decide +kernel) (by decide +kernel)
theorem tw_744 : (Cond.methodLink "MessageHub$Broker" (103 : Nat) ({ cls := "MessageHub$Packet", name := "<init>", desc := "(III)V" } : MethodName)) ∈ tb_T := tb_in (i := 744) (by decide +kernel) (by decide +kernel)
theorem tw_745 : (Cond.methodLink "MessageHub$Broker" (165 : Nat) ({ cls := "MessageHub$Parcel", name := "repeatedPacket", desc := "()LMessageHub$Packet;" } : MethodName)) ∈ tb_T := tb_in (i := 745) (by decide +kernel) (by decide +kernel)
theorem tw_746 : (Cond.methodLink "MessageHub$Broker" (88 : Nat) ({ cls := "MessageHub$Broker", name := "receivePublish", desc := "(ILMessageHub$Packet;)V" } : MethodName)) ∈ tb_T := tb_in (i := 746) (by decide +kernel) (by decide +kernel)
theorem tw_748 : (Cond.instanceMethod ({ cls := "MessageHub$Broker", name := "receivePublish", desc := "(ILMessageHub$Packet;)V" } : MethodName)) ∈ tb_T := tb_in (i := 748) (by decide +kernel) (by decide +kernel)
theorem tw_749 : (Cond.code ({ cls := "MessageHub$Broker", name := "receivePublish", desc := "(ILMessageHub$Packet;)V" } : MethodName) prog_2_method_10_code (8 : Nat) (Option.none : Option FieldType)) ∈ tb_T := tb_in (i := 749) (by decide +kernel) (by decide +kernel)
theorem tw_750 : (Cond.methodLink "MessageHub$Broker" (172 : Nat) ({ cls := "MessageHub$HeldIds", name := "has", desc := "(I)Z" } : MethodName)) ∈ tb_T := tb_in (i := 750) (by decide +kernel) (by decide +kernel)
theorem tw_751 : (Cond.methodLink "MessageHub$Broker" (180 : Nat) ({ cls := "MessageHub$Message", name := "<init>", desc := "(JIIZ)V" } : MethodName)) ∈ tb_T := tb_in (i := 751) (by decide +kernel) (by decide +kernel)
theorem tw_752 : (Cond.methodLink "MessageHub$Broker" (187 : Nat) ({ cls := "MessageHub$HeldIds", name := "add", desc := "(I)V" } : MethodName)) ∈ tb_T := tb_in (i := 752) (by decide +kernel) (by decide +kernel)
theorem tw_753 : (Cond.methodLink "MessageHub$Broker" (98 : Nat) ({ cls := "MessageHub$HeldIds", name := "remove", desc := "(I)V" } : MethodName)) ∈ tb_T := tb_in (i := 753) (by decide +kernel) (by decide +kernel)
theorem tw_754 : (Cond.methodLink "MessageHub$Broker" (112 : Nat) ({ cls := "MessageHub$Parcel", name := "finish", desc := "(Ljava/util/ArrayList;III)V" } : MethodName)) ∈ tb_T := tb_in (i := 754) (by decide +kernel) (by decide +kernel)
theorem tw_755 : (Cond.methodLink "MessageHub$Broker" (121 : Nat) ({ cls := "MessageHub$Parcel", name := "release", desc := "(Ljava/util/ArrayList;I)Z" } : MethodName)) ∈ tb_T := tb_in (i := 755) (by decide +kernel) (by decide +kernel)
theorem tw_756 : (Cond.methodLink "MessageHub$Broker" (125 : Nat) ({ cls := "MessageHub$Broker", name := "receiveSubscribe", desc := "(ILMessageHub$Packet;)V" } : MethodName)) ∈ tb_T := tb_in (i := 756) (by decide +kernel) (by decide +kernel)
theorem tw_758 : (Cond.instanceMethod ({ cls := "MessageHub$Broker", name := "receiveSubscribe", desc := "(ILMessageHub$Packet;)V" } : MethodName)) ∈ tb_T := tb_in (i := 758) (by decide +kernel) (by decide +kernel)
theorem tw_759 : (Cond.code ({ cls := "MessageHub$Broker", name := "receiveSubscribe", desc := "(ILMessageHub$Packet;)V" } : MethodName) prog_2_method_11_code (7 : Nat) (Option.none : Option FieldType)) ∈ tb_T := tb_in (i := 759) (by decide +kernel) (by decide +kernel)
theorem tw_760 : (Cond.methodLink "MessageHub$Broker" (189 : Nat) ({ cls := "MessageHub$Session", name := "enter", desc := "(JIZ)Z" } : MethodName)) ∈ tb_T := tb_in (i := 760) (by decide +kernel) (by decide +kernel)
theorem tw_761 : (Cond.instanceMethod ({ cls := "MessageHub$Session", name := "enter", desc := "(JIZ)Z" } : MethodName)) ∈ tb_T := tb_in (i := 761) (by decide +kernel) (by decide +kernel)
theorem tw_762 : (Cond.selects "MessageHub$Session" ({ cls := "MessageHub$Session", name := "enter", desc := "(JIZ)Z" } : MethodName) ({ cls := "MessageHub$Session", name := "enter", desc := "(JIZ)Z" } : MethodName)) ∈ tb_T := tb_in (i := 762) (by decide +kernel) (by decide +kernel)
theorem tw_763 : (Cond.code ({ cls := "MessageHub$Session", name := "enter", desc := "(JIZ)Z" } : MethodName) prog_10_method_7_code (6 : Nat) (Option.some FieldType.boolean)) ∈ tb_T := tb_in (i := 763) (by decide +kernel) (by decide +kernel)
theorem tw_764 : (Cond.methodLink "MessageHub$Session" (63 : Nat) ({ cls := "MessageHub$Session", name := "find", desc := "(J)I" } : MethodName)) ∈ tb_T := tb_in (i := 764) (by decide +kernel) (by decide +kernel)
theorem tw_765 : (Cond.instanceMethod ({ cls := "MessageHub$Session", name := "find", desc := "(J)I" } : MethodName)) ∈ tb_T := tb_in (i := 765) (by decide +kernel) (by decide +kernel)
theorem tw_766 : (Cond.selects "MessageHub$Session" ({ cls := "MessageHub$Session", name := "find", desc := "(J)I" } : MethodName) ({ cls := "MessageHub$Session", name := "find", desc := "(J)I" } : MethodName)) ∈ tb_T := tb_in (i := 766) (by decide +kernel) (by decide +kernel)
theorem tw_767 : (Cond.code ({ cls := "MessageHub$Session", name := "find", desc := "(J)I" } : MethodName) prog_10_method_6_code (4 : Nat) (Option.some FieldType.int)) ∈ tb_T := tb_in (i := 767) (by decide +kernel) (by decide +kernel)
theorem tw_768 : (Cond.instantiable "MessageHub$Subscription" (3 : Nat)) ∈ tb_T := tb_in (i := 768) (by decide +kernel) (by decide +kernel)
theorem tw_769 : (Cond.methodLink "MessageHub$Session" (67 : Nat) ({ cls := "MessageHub$Subscription", name := "<init>", desc := "(J)V" } : MethodName)) ∈ tb_T := tb_in (i := 769) (by decide +kernel) (by decide +kernel)
theorem tw_770 : (Cond.instanceMethod ({ cls := "MessageHub$Subscription", name := "<init>", desc := "(J)V" } : MethodName)) ∈ tb_T := tb_in (i := 770) (by decide +kernel) (by decide +kernel)
theorem tw_771 : (Cond.code ({ cls := "MessageHub$Subscription", name := "<init>", desc := "(J)V" } : MethodName) prog_11_method_1_code (3 : Nat) (Option.none : Option FieldType)) ∈ tb_T := tb_in (i := 771) (by decide +kernel) (by decide +kernel)
theorem tw_772 : (Cond.methodLink "MessageHub$Subscription" (3 : Nat) ({ cls := "java/lang/Object", name := "<init>", desc := "()V" } : MethodName)) ∈ tb_T := tb_in (i := 772) (by decide +kernel) (by decide +kernel)
theorem tw_773 : (Cond.fieldLink "MessageHub$Subscription" (9 : Nat) "MessageHub$Subscription" "filter" "J") ∈ tb_T := tb_in (i := 773) (by decide +kernel) (by decide +kernel)
theorem tw_774 : (Cond.fieldLink "MessageHub$Session" (59 : Nat) "MessageHub$Subscription" "filter" "J") ∈ tb_T := tb_in (i := 774) (by decide +kernel) (by decide +kernel)
theorem tw_775 : (Cond.fieldLink "MessageHub$Subscription" (30 : Nat) "MessageHub$Subscription" "quality" "I") ∈ tb_T := tb_in (i := 775) (by decide +kernel) (by decide +kernel)
theorem tw_776 : (Cond.fieldLink "MessageHub$Session" (74 : Nat) "MessageHub$Subscription" "quality" "I") ∈ tb_T := tb_in (i := 776) (by decide +kernel) (by decide +kernel)
theorem tw_777 : (Cond.fieldLink "MessageHub$Subscription" (15 : Nat) "MessageHub$Subscription" "noLocal" "Z") ∈ tb_T := tb_in (i := 777) (by decide +kernel) (by decide +kernel)
theorem tw_778 : (Cond.fieldLink "MessageHub$Session" (77 : Nat) "MessageHub$Subscription" "noLocal" "Z") ∈ tb_T := tb_in (i := 778) (by decide +kernel) (by decide +kernel)
theorem tw_786 : (Cond.methodLink "MessageHub$Session" (70 : Nat) ({ cls := "java/util/ArrayList", name := "add", desc := "(Ljava/lang/Object;)Z" } : MethodName)) ∈ tb_T := tb_in (i := 786) (by decide +kernel) (by decide +kernel)
theorem tw_787 : (Cond.methodLink "MessageHub$Broker" (196 : Nat) ({ cls := "MessageHub$Text", name := "covers", desc := "(JJ)Z" } : MethodName)) ∈ tb_T := tb_in (i := 787) (by decide +kernel) (by decide +kernel)
theorem tw_788 : (Cond.methodLink "MessageHub$Broker" (203 : Nat) ({ cls := "java/lang/Math", name := "min", desc := "(II)I" } : MethodName)) ∈ tb_T := tb_in (i := 788) (by decide +kernel) (by decide +kernel)
theorem tw_789 : (Cond.methodLink "MessageHub$Broker" (213 : Nat) ({ cls := "MessageHub$Broker", name := "giveRetained", desc := "(ILMessageHub$Message;)V" } : MethodName)) ∈ tb_T := tb_in (i := 789) (by decide +kernel) (by decide +kernel)
theorem tw_791 : (Cond.instanceMethod ({ cls := "MessageHub$Broker", name := "giveRetained", desc := "(ILMessageHub$Message;)V" } : MethodName)) ∈ tb_T := tb_in (i := 791) (by decide +kernel) (by decide +kernel)
theorem tw_792 : (Cond.code ({ cls := "MessageHub$Broker", name := "giveRetained", desc := "(ILMessageHub$Message;)V" } : MethodName) prog_2_method_12_code (3 : Nat) (Option.none : Option FieldType)) ∈ tb_T := tb_in (i := 792) (by decide +kernel) (by decide +kernel)
theorem tw_793 : (Cond.methodLink "MessageHub$Broker" (128 : Nat) ({ cls := "MessageHub$Broker", name := "receiveUnsubscribe", desc := "(ILMessageHub$Packet;)V" } : MethodName)) ∈ tb_T := tb_in (i := 793) (by decide +kernel) (by decide +kernel)
theorem tw_795 : (Cond.instanceMethod ({ cls := "MessageHub$Broker", name := "receiveUnsubscribe", desc := "(ILMessageHub$Packet;)V" } : MethodName)) ∈ tb_T := tb_in (i := 795) (by decide +kernel) (by decide +kernel)
theorem tw_796 : (Cond.code ({ cls := "MessageHub$Broker", name := "receiveUnsubscribe", desc := "(ILMessageHub$Packet;)V" } : MethodName) prog_2_method_13_code (5 : Nat) (Option.none : Option FieldType)) ∈ tb_T := tb_in (i := 796) (by decide +kernel) (by decide +kernel)
theorem tw_797 : (Cond.methodLink "MessageHub$Broker" (230 : Nat) ({ cls := "MessageHub$Session", name := "find", desc := "(J)I" } : MethodName)) ∈ tb_T := tb_in (i := 797) (by decide +kernel) (by decide +kernel)
theorem tw_798 : (Cond.methodLink "MessageHub" (137 : Nat) ({ cls := "MessageHub$Broker", name := "breakDown", desc := "()V" } : MethodName)) ∈ tb_T := tb_in (i := 798) (by decide +kernel) (by decide +kernel)
theorem tw_799 : (Cond.instanceMethod ({ cls := "MessageHub$Broker", name := "breakDown", desc := "()V" } : MethodName)) ∈ tb_T := tb_in (i := 799) (by decide +kernel) (by decide +kernel)
theorem tw_800 : (Cond.selects "MessageHub$Broker" ({ cls := "MessageHub$Broker", name := "breakDown", desc := "()V" } : MethodName) ({ cls := "MessageHub$Broker", name := "breakDown", desc := "()V" } : MethodName)) ∈ tb_T := tb_in (i := 800) (by decide +kernel) (by decide +kernel)
theorem tw_801 : (Cond.code ({ cls := "MessageHub$Broker", name := "breakDown", desc := "()V" } : MethodName) prog_2_method_3_code (2 : Nat) (Option.none : Option FieldType)) ∈ tb_T := tb_in (i := 801) (by decide +kernel) (by decide +kernel)
theorem tw_802 : (Cond.methodLink "MessageHubLaw" (58 : Nat) ({ cls := "MessageHub", name := "tick", desc := "()I" } : MethodName)) ∈ tb_T := tb_in (i := 802) (by decide +kernel) (by decide +kernel)
theorem tw_803 : (Cond.instanceMethod ({ cls := "MessageHub", name := "tick", desc := "()I" } : MethodName)) ∈ tb_T := tb_in (i := 803) (by decide +kernel) (by decide +kernel)
theorem tw_804 : (Cond.selects "MessageHub" ({ cls := "MessageHub", name := "tick", desc := "()I" } : MethodName) ({ cls := "MessageHub", name := "tick", desc := "()I" } : MethodName)) ∈ tb_T := tb_in (i := 804) (by decide +kernel) (by decide +kernel)
theorem tw_805 : (Cond.code ({ cls := "MessageHub", name := "tick", desc := "()I" } : MethodName) prog_1_method_11_code (1 : Nat) (Option.some FieldType.int)) ∈ tb_T := tb_in (i := 805) (by decide +kernel) (by decide +kernel)
theorem tw_806 : (Cond.methodLink "MessageHub" (140 : Nat) ({ cls := "MessageHub$Broker", name := "passTick", desc := "()I" } : MethodName)) ∈ tb_T := tb_in (i := 806) (by decide +kernel) (by decide +kernel)
theorem tw_807 : (Cond.instanceMethod ({ cls := "MessageHub$Broker", name := "passTick", desc := "()I" } : MethodName)) ∈ tb_T := tb_in (i := 807) (by decide +kernel) (by decide +kernel)
theorem tw_808 : (Cond.selects "MessageHub$Broker" ({ cls := "MessageHub$Broker", name := "passTick", desc := "()I" } : MethodName) ({ cls := "MessageHub$Broker", name := "passTick", desc := "()I" } : MethodName)) ∈ tb_T := tb_in (i := 808) (by decide +kernel) (by decide +kernel)
theorem tw_809 : (Cond.code ({ cls := "MessageHub$Broker", name := "passTick", desc := "()I" } : MethodName) prog_2_method_4_code (4 : Nat) (Option.some FieldType.int)) ∈ tb_T := tb_in (i := 809) (by decide +kernel) (by decide +kernel)
theorem tw_810 : (Cond.methodLink "MessageHub$Broker" (52 : Nat) ({ cls := "MessageHub$Connection", name := "growSilent", desc := "()Z" } : MethodName)) ∈ tb_T := tb_in (i := 810) (by decide +kernel) (by decide +kernel)
theorem tw_811 : (Cond.instanceMethod ({ cls := "MessageHub$Connection", name := "growSilent", desc := "()Z" } : MethodName)) ∈ tb_T := tb_in (i := 811) (by decide +kernel) (by decide +kernel)
theorem tw_812 : (Cond.selects "MessageHub$Connection" ({ cls := "MessageHub$Connection", name := "growSilent", desc := "()Z" } : MethodName) ({ cls := "MessageHub$Connection", name := "growSilent", desc := "()Z" } : MethodName)) ∈ tb_T := tb_in (i := 812) (by decide +kernel) (by decide +kernel)
theorem tw_813 : (Cond.code ({ cls := "MessageHub$Connection", name := "growSilent", desc := "()Z" } : MethodName) prog_4_method_5_code (1 : Nat) (Option.some FieldType.boolean)) ∈ tb_T := tb_in (i := 813) (by decide +kernel) (by decide +kernel)
theorem tw_814 : (Cond.methodLink "MessageHub$Broker" (60 : Nat) ({ cls := "MessageHub$Session", name := "countDown", desc := "()Z" } : MethodName)) ∈ tb_T := tb_in (i := 814) (by decide +kernel) (by decide +kernel)
theorem tw_815 : (Cond.instanceMethod ({ cls := "MessageHub$Session", name := "countDown", desc := "()Z" } : MethodName)) ∈ tb_T := tb_in (i := 815) (by decide +kernel) (by decide +kernel)
theorem tw_816 : (Cond.selects "MessageHub$Session" ({ cls := "MessageHub$Session", name := "countDown", desc := "()Z" } : MethodName) ({ cls := "MessageHub$Session", name := "countDown", desc := "()Z" } : MethodName)) ∈ tb_T := tb_in (i := 816) (by decide +kernel) (by decide +kernel)
theorem tw_817 : (Cond.code ({ cls := "MessageHub$Session", name := "countDown", desc := "()Z" } : MethodName) prog_10_method_4_code (1 : Nat) (Option.some FieldType.boolean)) ∈ tb_T := tb_in (i := 817) (by decide +kernel) (by decide +kernel)
theorem tw_818 : (Cond.methodLink "MessageHubLaw" (63 : Nat) ({ cls := "MessageHub", name := "crash", desc := "()V" } : MethodName)) ∈ tb_T := tb_in (i := 818) (by decide +kernel) (by decide +kernel)
theorem tw_819 : (Cond.instanceMethod ({ cls := "MessageHub", name := "crash", desc := "()V" } : MethodName)) ∈ tb_T := tb_in (i := 819) (by decide +kernel) (by decide +kernel)
theorem tw_820 : (Cond.selects "MessageHub" ({ cls := "MessageHub", name := "crash", desc := "()V" } : MethodName) ({ cls := "MessageHub", name := "crash", desc := "()V" } : MethodName)) ∈ tb_T := tb_in (i := 820) (by decide +kernel) (by decide +kernel)
theorem tw_821 : (Cond.code ({ cls := "MessageHub", name := "crash", desc := "()V" } : MethodName) prog_1_method_12_code (1 : Nat) (Option.none : Option FieldType)) ∈ tb_T := tb_in (i := 821) (by decide +kernel) (by decide +kernel)
theorem tw_822 : (Cond.methodLink "MessageHubLaw" (67 : Nat) ({ cls := "MessageHub", name := "fail", desc := "(I)Z" } : MethodName)) ∈ tb_T := tb_in (i := 822) (by decide +kernel) (by decide +kernel)
theorem tw_823 : (Cond.instanceMethod ({ cls := "MessageHub", name := "fail", desc := "(I)Z" } : MethodName)) ∈ tb_T := tb_in (i := 823) (by decide +kernel) (by decide +kernel)
theorem tw_824 : (Cond.selects "MessageHub" ({ cls := "MessageHub", name := "fail", desc := "(I)Z" } : MethodName) ({ cls := "MessageHub", name := "fail", desc := "(I)Z" } : MethodName)) ∈ tb_T := tb_in (i := 824) (by decide +kernel) (by decide +kernel)
theorem tw_825 : (Cond.code ({ cls := "MessageHub", name := "fail", desc := "(I)Z" } : MethodName) prog_1_method_13_code (2 : Nat) (Option.some FieldType.boolean)) ∈ tb_T := tb_in (i := 825) (by decide +kernel) (by decide +kernel)
theorem tw_826 : (Cond.methodLink "MessageHubLaw" (71 : Nat) ({ cls := "MessageHub", name := "state", desc := "(I)I" } : MethodName)) ∈ tb_T := tb_in (i := 826) (by decide +kernel) (by decide +kernel)
theorem tw_827 : (Cond.instanceMethod ({ cls := "MessageHub", name := "state", desc := "(I)I" } : MethodName)) ∈ tb_T := tb_in (i := 827) (by decide +kernel) (by decide +kernel)
theorem tw_828 : (Cond.selects "MessageHub" ({ cls := "MessageHub", name := "state", desc := "(I)I" } : MethodName) ({ cls := "MessageHub", name := "state", desc := "(I)I" } : MethodName)) ∈ tb_T := tb_in (i := 828) (by decide +kernel) (by decide +kernel)
theorem tw_829 : (Cond.code ({ cls := "MessageHub", name := "state", desc := "(I)I" } : MethodName) prog_1_method_14_code (2 : Nat) (Option.some FieldType.int)) ∈ tb_T := tb_in (i := 829) (by decide +kernel) (by decide +kernel)
theorem tw_830 : (Cond.methodLink "MessageHubLaw" (76 : Nat) ({ cls := "MessageHub", name := "session", desc := "(I)I" } : MethodName)) ∈ tb_T := tb_in (i := 830) (by decide +kernel) (by decide +kernel)
theorem tw_831 : (Cond.instanceMethod ({ cls := "MessageHub", name := "session", desc := "(I)I" } : MethodName)) ∈ tb_T := tb_in (i := 831) (by decide +kernel) (by decide +kernel)
theorem tw_832 : (Cond.selects "MessageHub" ({ cls := "MessageHub", name := "session", desc := "(I)I" } : MethodName) ({ cls := "MessageHub", name := "session", desc := "(I)I" } : MethodName)) ∈ tb_T := tb_in (i := 832) (by decide +kernel) (by decide +kernel)
theorem tw_833 : (Cond.code ({ cls := "MessageHub", name := "session", desc := "(I)I" } : MethodName) prog_1_method_15_code (2 : Nat) (Option.some FieldType.int)) ∈ tb_T := tb_in (i := 833) (by decide +kernel) (by decide +kernel)
theorem tw_834 : (Cond.methodLink "MessageHub" (163 : Nat) ({ cls := "MessageHub$Session", name := "summary", desc := "()I" } : MethodName)) ∈ tb_T := tb_in (i := 834) (by decide +kernel) (by decide +kernel)
theorem tw_835 : (Cond.instanceMethod ({ cls := "MessageHub$Session", name := "summary", desc := "()I" } : MethodName)) ∈ tb_T := tb_in (i := 835) (by decide +kernel) (by decide +kernel)
theorem tw_836 : (Cond.selects "MessageHub$Session" ({ cls := "MessageHub$Session", name := "summary", desc := "()I" } : MethodName) ({ cls := "MessageHub$Session", name := "summary", desc := "()I" } : MethodName)) ∈ tb_T := tb_in (i := 836) (by decide +kernel) (by decide +kernel)
theorem tw_837 : (Cond.code ({ cls := "MessageHub$Session", name := "summary", desc := "()I" } : MethodName) prog_10_method_9_code (1 : Nat) (Option.some FieldType.int)) ∈ tb_T := tb_in (i := 837) (by decide +kernel) (by decide +kernel)
theorem tw_838 : (Cond.methodLink "MessageHub$Session" (84 : Nat) ({ cls := "MessageHub$HeldIds", name := "count", desc := "()I" } : MethodName)) ∈ tb_T := tb_in (i := 838) (by decide +kernel) (by decide +kernel)
theorem tw_839 : (Cond.instanceMethod ({ cls := "MessageHub$HeldIds", name := "count", desc := "()I" } : MethodName)) ∈ tb_T := tb_in (i := 839) (by decide +kernel) (by decide +kernel)
theorem tw_840 : (Cond.selects "MessageHub$HeldIds" ({ cls := "MessageHub$HeldIds", name := "count", desc := "()I" } : MethodName) ({ cls := "MessageHub$HeldIds", name := "count", desc := "()I" } : MethodName)) ∈ tb_T := tb_in (i := 840) (by decide +kernel) (by decide +kernel)
theorem tw_841 : (Cond.code ({ cls := "MessageHub$HeldIds", name := "count", desc := "()I" } : MethodName) prog_5_method_6_code (1 : Nat) (Option.some FieldType.int)) ∈ tb_T := tb_in (i := 841) (by decide +kernel) (by decide +kernel)
theorem tw_842 : (Cond.methodLink "MessageHub$HeldIds" (13 : Nat) ({ cls := "java/lang/Integer", name := "bitCount", desc := "(I)I" } : MethodName)) ∈ tb_T := tb_in (i := 842) (by decide +kernel) (by decide +kernel)
theorem tw_843 : (Cond.static ({ cls := "java/lang/Integer", name := "bitCount", desc := "(I)I" } : MethodName)) ∈ tb_T := tb_in (i := 843) (by decide +kernel) (by decide +kernel)
theorem tw_844 : (Cond.code ({ cls := "java/lang/Integer", name := "bitCount", desc := "(I)I" } : MethodName) prog_17_method_49_code (1 : Nat) (Option.some FieldType.int)) ∈ tb_T := tb_in (i := 844) (by decide +kernel) (by decide +kernel)
theorem tw_845 : (Cond.constant "java/lang/Integer" (265 : Nat) (1431655765 : Int32)) ∈ tb_T := tb_in (i := 845) (by decide +kernel) (by decide +kernel)
theorem tw_846 : (Cond.constant "java/lang/Integer" (266 : Nat) (858993459 : Int32)) ∈ tb_T := tb_in (i := 846) (by decide +kernel) (by decide +kernel)
theorem tw_847 : (Cond.constant "java/lang/Integer" (267 : Nat) (252645135 : Int32)) ∈ tb_T := tb_in (i := 847) (by decide +kernel) (by decide +kernel)
theorem tw_848 : (Cond.methodLink "MessageHubLaw" (80 : Nat) ({ cls := "MessageHub", name := "line", desc := "(IZ)I" } : MethodName)) ∈ tb_T := tb_in (i := 848) (by decide +kernel) (by decide +kernel)
theorem tw_849 : (Cond.instanceMethod ({ cls := "MessageHub", name := "line", desc := "(IZ)I" } : MethodName)) ∈ tb_T := tb_in (i := 849) (by decide +kernel) (by decide +kernel)
theorem tw_850 : (Cond.selects "MessageHub" ({ cls := "MessageHub", name := "line", desc := "(IZ)I" } : MethodName) ({ cls := "MessageHub", name := "line", desc := "(IZ)I" } : MethodName)) ∈ tb_T := tb_in (i := 850) (by decide +kernel) (by decide +kernel)
theorem tw_851 : (Cond.code ({ cls := "MessageHub", name := "line", desc := "(IZ)I" } : MethodName) prog_1_method_16_code (3 : Nat) (Option.some FieldType.int)) ∈ tb_T := tb_in (i := 851) (by decide +kernel) (by decide +kernel)
theorem tw_852 : (Cond.methodLink "MessageHubLaw" (84 : Nat) ({ cls := "MessageHub", name := "packet", desc := "(IZI)J" } : MethodName)) ∈ tb_T := tb_in (i := 852) (by decide +kernel) (by decide +kernel)
theorem tw_853 : (Cond.instanceMethod ({ cls := "MessageHub", name := "packet", desc := "(IZI)J" } : MethodName)) ∈ tb_T := tb_in (i := 853) (by decide +kernel) (by decide +kernel)
theorem tw_854 : (Cond.selects "MessageHub" ({ cls := "MessageHub", name := "packet", desc := "(IZI)J" } : MethodName) ({ cls := "MessageHub", name := "packet", desc := "(IZI)J" } : MethodName)) ∈ tb_T := tb_in (i := 854) (by decide +kernel) (by decide +kernel)
theorem tw_855 : (Cond.code ({ cls := "MessageHub", name := "packet", desc := "(IZI)J" } : MethodName) prog_1_method_17_code (4 : Nat) (Option.some FieldType.long)) ∈ tb_T := tb_in (i := 855) (by decide +kernel) (by decide +kernel)
theorem tw_856 : (Cond.methodLink "MessageHub" (168 : Nat) ({ cls := "java/util/ArrayList", name := "get", desc := "(I)Ljava/lang/Object;" } : MethodName)) ∈ tb_T := tb_in (i := 856) (by decide +kernel) (by decide +kernel)
theorem tw_857 : (Cond.methodLink "MessageHub" (171 : Nat) ({ cls := "MessageHub$Packet", name := "number", desc := "()J" } : MethodName)) ∈ tb_T := tb_in (i := 857) (by decide +kernel) (by decide +kernel)
theorem tw_858 : (Cond.instanceMethod ({ cls := "MessageHub$Packet", name := "number", desc := "()J" } : MethodName)) ∈ tb_T := tb_in (i := 858) (by decide +kernel) (by decide +kernel)
theorem tw_859 : (Cond.selects "MessageHub$Packet" ({ cls := "MessageHub$Packet", name := "number", desc := "()J" } : MethodName) ({ cls := "MessageHub$Packet", name := "number", desc := "()J" } : MethodName)) ∈ tb_T := tb_in (i := 859) (by decide +kernel) (by decide +kernel)
theorem tw_860 : (Cond.code ({ cls := "MessageHub$Packet", name := "number", desc := "()J" } : MethodName) prog_8_method_5_code (1 : Nat) (Option.some FieldType.long)) ∈ tb_T := tb_in (i := 860) (by decide +kernel) (by decide +kernel)
theorem tw_861 : (Cond.constantLong "MessageHub$Packet" (57 : Nat) (65536 : Int64)) ∈ tb_T := tb_in (i := 861) (by decide +kernel) (by decide +kernel)
theorem tw_862 : (Cond.methodLink "MessageHubLaw" (89 : Nat) ({ cls := "MessageHub", name := "inbox", desc := "(II)I" } : MethodName)) ∈ tb_T := tb_in (i := 862) (by decide +kernel) (by decide +kernel)
theorem tw_863 : (Cond.instanceMethod ({ cls := "MessageHub", name := "inbox", desc := "(II)I" } : MethodName)) ∈ tb_T := tb_in (i := 863) (by decide +kernel) (by decide +kernel)
theorem tw_864 : (Cond.selects "MessageHub" ({ cls := "MessageHub", name := "inbox", desc := "(II)I" } : MethodName) ({ cls := "MessageHub", name := "inbox", desc := "(II)I" } : MethodName)) ∈ tb_T := tb_in (i := 864) (by decide +kernel) (by decide +kernel)
theorem tw_865 : (Cond.code ({ cls := "MessageHub", name := "inbox", desc := "(II)I" } : MethodName) prog_1_method_18_code (3 : Nat) (Option.some FieldType.int)) ∈ tb_T := tb_in (i := 865) (by decide +kernel) (by decide +kernel)
theorem tw_866 : (Cond.methodLink "MessageHub" (175 : Nat) ({ cls := "MessageHub$Client", name := "received", desc := "(I)I" } : MethodName)) ∈ tb_T := tb_in (i := 866) (by decide +kernel) (by decide +kernel)
theorem tw_867 : (Cond.instanceMethod ({ cls := "MessageHub$Client", name := "received", desc := "(I)I" } : MethodName)) ∈ tb_T := tb_in (i := 867) (by decide +kernel) (by decide +kernel)
theorem tw_868 : (Cond.selects "MessageHub$Client" ({ cls := "MessageHub$Client", name := "received", desc := "(I)I" } : MethodName) ({ cls := "MessageHub$Client", name := "received", desc := "(I)I" } : MethodName)) ∈ tb_T := tb_in (i := 868) (by decide +kernel) (by decide +kernel)
theorem tw_869 : (Cond.code ({ cls := "MessageHub$Client", name := "received", desc := "(I)I" } : MethodName) prog_3_method_6_code (2 : Nat) (Option.some FieldType.int)) ∈ tb_T := tb_in (i := 869) (by decide +kernel) (by decide +kernel)
theorem tw_870 : (Cond.methodLink "MessageHubLaw" (94 : Nat) ({ cls := "MessageHub", name := "store", desc := "(I)I" } : MethodName)) ∈ tb_T := tb_in (i := 870) (by decide +kernel) (by decide +kernel)
theorem tw_871 : (Cond.instanceMethod ({ cls := "MessageHub", name := "store", desc := "(I)I" } : MethodName)) ∈ tb_T := tb_in (i := 871) (by decide +kernel) (by decide +kernel)
theorem tw_872 : (Cond.selects "MessageHub" ({ cls := "MessageHub", name := "store", desc := "(I)I" } : MethodName) ({ cls := "MessageHub", name := "store", desc := "(I)I" } : MethodName)) ∈ tb_T := tb_in (i := 872) (by decide +kernel) (by decide +kernel)
theorem tw_873 : (Cond.code ({ cls := "MessageHub", name := "store", desc := "(I)I" } : MethodName) prog_1_method_19_code (2 : Nat) (Option.some FieldType.int)) ∈ tb_T := tb_in (i := 873) (by decide +kernel) (by decide +kernel)
theorem tw_874 : (Cond.methodLink "MessageHub" (179 : Nat) ({ cls := "MessageHub$Client", name := "summary", desc := "()I" } : MethodName)) ∈ tb_T := tb_in (i := 874) (by decide +kernel) (by decide +kernel)
theorem tw_875 : (Cond.instanceMethod ({ cls := "MessageHub$Client", name := "summary", desc := "()I" } : MethodName)) ∈ tb_T := tb_in (i := 875) (by decide +kernel) (by decide +kernel)
theorem tw_876 : (Cond.selects "MessageHub$Client" ({ cls := "MessageHub$Client", name := "summary", desc := "()I" } : MethodName) ({ cls := "MessageHub$Client", name := "summary", desc := "()I" } : MethodName)) ∈ tb_T := tb_in (i := 876) (by decide +kernel) (by decide +kernel)
theorem tw_877 : (Cond.code ({ cls := "MessageHub$Client", name := "summary", desc := "()I" } : MethodName) prog_3_method_7_code (1 : Nat) (Option.some FieldType.int)) ∈ tb_T := tb_in (i := 877) (by decide +kernel) (by decide +kernel)
theorem tw_878 : (Cond.methodLink "MessageHub$Client" (105 : Nat) ({ cls := "MessageHub$HeldIds", name := "count", desc := "()I" } : MethodName)) ∈ tb_T := tb_in (i := 878) (by decide +kernel) (by decide +kernel)
theorem tw_879 : (Cond.methodLink "MessageHubLaw" (98 : Nat) ({ cls := "MessageHub", name := "retained", desc := "(J)I" } : MethodName)) ∈ tb_T := tb_in (i := 879) (by decide +kernel) (by decide +kernel)
theorem tw_880 : (Cond.instanceMethod ({ cls := "MessageHub", name := "retained", desc := "(J)I" } : MethodName)) ∈ tb_T := tb_in (i := 880) (by decide +kernel) (by decide +kernel)
theorem tw_881 : (Cond.selects "MessageHub" ({ cls := "MessageHub", name := "retained", desc := "(J)I" } : MethodName) ({ cls := "MessageHub", name := "retained", desc := "(J)I" } : MethodName)) ∈ tb_T := tb_in (i := 881) (by decide +kernel) (by decide +kernel)
theorem tw_882 : (Cond.code ({ cls := "MessageHub", name := "retained", desc := "(J)I" } : MethodName) prog_1_method_20_code (3 : Nat) (Option.some FieldType.int)) ∈ tb_T := tb_in (i := 882) (by decide +kernel) (by decide +kernel)
theorem tw_883 : (Cond.methodLink "MessageHub" (180 : Nat) ({ cls := "MessageHub$Broker", name := "retainedValue", desc := "(J)I" } : MethodName)) ∈ tb_T := tb_in (i := 883) (by decide +kernel) (by decide +kernel)
theorem tw_884 : (Cond.instanceMethod ({ cls := "MessageHub$Broker", name := "retainedValue", desc := "(J)I" } : MethodName)) ∈ tb_T := tb_in (i := 884) (by decide +kernel) (by decide +kernel)
theorem tw_885 : (Cond.selects "MessageHub$Broker" ({ cls := "MessageHub$Broker", name := "retainedValue", desc := "(J)I" } : MethodName) ({ cls := "MessageHub$Broker", name := "retainedValue", desc := "(J)I" } : MethodName)) ∈ tb_T := tb_in (i := 885) (by decide +kernel) (by decide +kernel)
theorem tw_886 : (Cond.code ({ cls := "MessageHub$Broker", name := "retainedValue", desc := "(J)I" } : MethodName) prog_2_method_5_code (4 : Nat) (Option.some FieldType.int)) ∈ tb_T := tb_in (i := 886) (by decide +kernel) (by decide +kernel)
theorem tw_887 : (Cond.methodLink "MessageHubLaw" (103 : Nat) ({ cls := "MessageHub", name := "matches", desc := "(JJ)Z" } : MethodName)) ∈ tb_T := tb_in (i := 887) (by decide +kernel) (by decide +kernel)
theorem tw_888 : (Cond.instanceMethod ({ cls := "MessageHub", name := "matches", desc := "(JJ)Z" } : MethodName)) ∈ tb_T := tb_in (i := 888) (by decide +kernel) (by decide +kernel)
theorem tw_889 : (Cond.selects "MessageHub" ({ cls := "MessageHub", name := "matches", desc := "(JJ)Z" } : MethodName) ({ cls := "MessageHub", name := "matches", desc := "(JJ)Z" } : MethodName)) ∈ tb_T := tb_in (i := 889) (by decide +kernel) (by decide +kernel)
theorem tw_890 : (Cond.code ({ cls := "MessageHub", name := "matches", desc := "(JJ)Z" } : MethodName) prog_1_method_21_code (9 : Nat) (Option.some FieldType.boolean)) ∈ tb_T := tb_in (i := 890) (by decide +kernel) (by decide +kernel)
theorem tw_891 : (Cond.methodLink "MessageHub" (184 : Nat) ({ cls := "MessageHub$Text", name := "covers", desc := "(JJ)Z" } : MethodName)) ∈ tb_T := tb_in (i := 891) (by decide +kernel) (by decide +kernel)
theorem tw_892 : (Cond.classLink "MessageHubLaw" (10 : Nat) "MessageHubModel") ∈ tb_T := tb_in (i := 892) (by decide +kernel) (by decide +kernel)
theorem tw_893 : (Cond.instantiable "MessageHubModel" (65 : Nat)) ∈ tb_T := tb_in (i := 893) (by decide +kernel) (by decide +kernel)
theorem tw_894 : (Cond.methodLink "MessageHubLaw" (12 : Nat) ({ cls := "MessageHubModel", name := "<init>", desc := "()V" } : MethodName)) ∈ tb_T := tb_in (i := 894) (by decide +kernel) (by decide +kernel)
theorem tw_895 : (Cond.instanceMethod ({ cls := "MessageHubModel", name := "<init>", desc := "()V" } : MethodName)) ∈ tb_T := tb_in (i := 895) (by decide +kernel) (by decide +kernel)
theorem tw_896 : (Cond.code ({ cls := "MessageHubModel", name := "<init>", desc := "()V" } : MethodName) prog_14_method_1_code (1 : Nat) (Option.none : Option FieldType)) ∈ tb_T := tb_in (i := 896) (by decide +kernel) (by decide +kernel)
theorem tw_897 : (Cond.methodLink "MessageHubModel" (1 : Nat) ({ cls := "java/lang/Object", name := "<init>", desc := "()V" } : MethodName)) ∈ tb_T := tb_in (i := 897) (by decide +kernel) (by decide +kernel)
theorem tw_898 : (Cond.fieldLink "MessageHubModel" (7 : Nat) "MessageHubModel" "lineSize" "[I") ∈ tb_T := tb_in (i := 898) (by decide +kernel) (by decide +kernel)
theorem tw_899 : (Cond.fieldLink "MessageHubModel" (13 : Nat) "MessageHubModel" "type" "[I") ∈ tb_T := tb_in (i := 899) (by decide +kernel) (by decide +kernel)
theorem tw_900 : (Cond.fieldLink "MessageHubModel" (16 : Nat) "MessageHubModel" "id" "[I") ∈ tb_T := tb_in (i := 900) (by decide +kernel) (by decide +kernel)
theorem tw_901 : (Cond.fieldLink "MessageHubModel" (19 : Nat) "MessageHubModel" "number" "[I") ∈ tb_T := tb_in (i := 901) (by decide +kernel) (by decide +kernel)
theorem tw_902 : (Cond.fieldLink "MessageHubModel" (22 : Nat) "MessageHubModel" "grade" "[I") ∈ tb_T := tb_in (i := 902) (by decide +kernel) (by decide +kernel)
theorem tw_903 : (Cond.fieldLink "MessageHubModel" (25 : Nat) "MessageHubModel" "again" "[Z") ∈ tb_T := tb_in (i := 903) (by decide +kernel) (by decide +kernel)
theorem tw_904 : (Cond.fieldLink "MessageHubModel" (29 : Nat) "MessageHubModel" "mark" "[Z") ∈ tb_T := tb_in (i := 904) (by decide +kernel) (by decide +kernel)
theorem tw_905 : (Cond.fieldLink "MessageHubModel" (32 : Nat) "MessageHubModel" "text" "[J") ∈ tb_T := tb_in (i := 905) (by decide +kernel) (by decide +kernel)
theorem tw_906 : (Cond.fieldLink "MessageHubModel" (36 : Nat) "MessageHubModel" "window" "[I") ∈ tb_T := tb_in (i := 906) (by decide +kernel) (by decide +kernel)
theorem tw_907 : (Cond.fieldLink "MessageHubModel" (39 : Nat) "MessageHubModel" "keep" "[I") ∈ tb_T := tb_in (i := 907) (by decide +kernel) (by decide +kernel)
theorem tw_908 : (Cond.fieldLink "MessageHubModel" (42 : Nat) "MessageHubModel" "willText" "[J") ∈ tb_T := tb_in (i := 908) (by decide +kernel) (by decide +kernel)
theorem tw_909 : (Cond.fieldLink "MessageHubModel" (45 : Nat) "MessageHubModel" "willNumber" "[I") ∈ tb_T := tb_in (i := 909) (by decide +kernel) (by decide +kernel)
theorem tw_910 : (Cond.fieldLink "MessageHubModel" (202 : Nat) "MessageHubModel" "inType" "I") ∈ tb_T := tb_in (i := 910) (by decide +kernel) (by decide +kernel)
theorem tw_911 : (Cond.fieldLink "MessageHubModel" (206 : Nat) "MessageHubModel" "inId" "I") ∈ tb_T := tb_in (i := 911) (by decide +kernel) (by decide +kernel)
theorem tw_912 : (Cond.fieldLink "MessageHubModel" (209 : Nat) "MessageHubModel" "inNumber" "I") ∈ tb_T := tb_in (i := 912) (by decide +kernel) (by decide +kernel)
theorem tw_913 : (Cond.fieldLink "MessageHubModel" (212 : Nat) "MessageHubModel" "inGrade" "I") ∈ tb_T := tb_in (i := 913) (by decide +kernel) (by decide +kernel)
theorem tw_914 : (Cond.fieldLink "MessageHubModel" (215 : Nat) "MessageHubModel" "inMark" "Z") ∈ tb_T := tb_in (i := 914) (by decide +kernel) (by decide +kernel)
theorem tw_915 : (Cond.fieldLink "MessageHubModel" (219 : Nat) "MessageHubModel" "inText" "J") ∈ tb_T := tb_in (i := 915) (by decide +kernel) (by decide +kernel)
theorem tw_916 : (Cond.fieldLink "MessageHubModel" (223 : Nat) "MessageHubModel" "inWindow" "I") ∈ tb_T := tb_in (i := 916) (by decide +kernel) (by decide +kernel)
theorem tw_917 : (Cond.fieldLink "MessageHubModel" (226 : Nat) "MessageHubModel" "inKeep" "I") ∈ tb_T := tb_in (i := 917) (by decide +kernel) (by decide +kernel)
theorem tw_918 : (Cond.fieldLink "MessageHubModel" (229 : Nat) "MessageHubModel" "inWillText" "J") ∈ tb_T := tb_in (i := 918) (by decide +kernel) (by decide +kernel)
theorem tw_919 : (Cond.fieldLink "MessageHubModel" (232 : Nat) "MessageHubModel" "inWillNumber" "I") ∈ tb_T := tb_in (i := 919) (by decide +kernel) (by decide +kernel)
theorem tw_920 : (Cond.fieldLink "MessageHubModel" (48 : Nat) "MessageHubModel" "clientState" "[I") ∈ tb_T := tb_in (i := 920) (by decide +kernel) (by decide +kernel)
theorem tw_921 : (Cond.fieldLink "MessageHubModel" (51 : Nat) "MessageHubModel" "stored" "[I") ∈ tb_T := tb_in (i := 921) (by decide +kernel) (by decide +kernel)
theorem tw_922 : (Cond.fieldLink "MessageHubModel" (54 : Nat) "MessageHubModel" "storeText" "[J") ∈ tb_T := tb_in (i := 922) (by decide +kernel) (by decide +kernel)
theorem tw_923 : (Cond.fieldLink "MessageHubModel" (57 : Nat) "MessageHubModel" "storeNumber" "[I") ∈ tb_T := tb_in (i := 923) (by decide +kernel) (by decide +kernel)
theorem tw_924 : (Cond.fieldLink "MessageHubModel" (60 : Nat) "MessageHubModel" "storeGrade" "[I") ∈ tb_T := tb_in (i := 924) (by decide +kernel) (by decide +kernel)
theorem tw_925 : (Cond.fieldLink "MessageHubModel" (63 : Nat) "MessageHubModel" "storeRetain" "[Z") ∈ tb_T := tb_in (i := 925) (by decide +kernel) (by decide +kernel)
theorem tw_926 : (Cond.fieldLink "MessageHubModel" (66 : Nat) "MessageHubModel" "storeStage" "[I") ∈ tb_T := tb_in (i := 926) (by decide +kernel) (by decide +kernel)
theorem tw_927 : (Cond.fieldLink "MessageHubModel" (69 : Nat) "MessageHubModel" "storeId" "[I") ∈ tb_T := tb_in (i := 927) (by decide +kernel) (by decide +kernel)
theorem tw_928 : (Cond.fieldLink "MessageHubModel" (72 : Nat) "MessageHubModel" "clientHolds" "[Z") ∈ tb_T := tb_in (i := 928) (by decide +kernel) (by decide +kernel)
theorem tw_929 : (Cond.fieldLink "MessageHubModel" (75 : Nat) "MessageHubModel" "inboxes" "[I") ∈ tb_T := tb_in (i := 929) (by decide +kernel) (by decide +kernel)
theorem tw_930 : (Cond.fieldLink "MessageHubModel" (78 : Nat) "MessageHubModel" "inboxValue" "[I") ∈ tb_T := tb_in (i := 930) (by decide +kernel) (by decide +kernel)
theorem tw_931 : (Cond.fieldLink "MessageHubModel" (81 : Nat) "MessageHubModel" "ownWillText" "[J") ∈ tb_T := tb_in (i := 931) (by decide +kernel) (by decide +kernel)
theorem tw_932 : (Cond.fieldLink "MessageHubModel" (84 : Nat) "MessageHubModel" "ownWillNumber" "[I") ∈ tb_T := tb_in (i := 932) (by decide +kernel) (by decide +kernel)
theorem tw_933 : (Cond.fieldLink "MessageHubModel" (87 : Nat) "MessageHubModel" "connected" "[Z") ∈ tb_T := tb_in (i := 933) (by decide +kernel) (by decide +kernel)
theorem tw_934 : (Cond.fieldLink "MessageHubModel" (90 : Nat) "MessageHubModel" "attached" "[Z") ∈ tb_T := tb_in (i := 934) (by decide +kernel) (by decide +kernel)
theorem tw_935 : (Cond.fieldLink "MessageHubModel" (93 : Nat) "MessageHubModel" "windowOf" "[I") ∈ tb_T := tb_in (i := 935) (by decide +kernel) (by decide +kernel)
theorem tw_936 : (Cond.fieldLink "MessageHubModel" (96 : Nat) "MessageHubModel" "keepOf" "[I") ∈ tb_T := tb_in (i := 936) (by decide +kernel) (by decide +kernel)
theorem tw_937 : (Cond.fieldLink "MessageHubModel" (99 : Nat) "MessageHubModel" "silence" "[I") ∈ tb_T := tb_in (i := 937) (by decide +kernel) (by decide +kernel)
theorem tw_938 : (Cond.fieldLink "MessageHubModel" (102 : Nat) "MessageHubModel" "deathText" "[J") ∈ tb_T := tb_in (i := 938) (by decide +kernel) (by decide +kernel)
theorem tw_939 : (Cond.fieldLink "MessageHubModel" (105 : Nat) "MessageHubModel" "deathNumber" "[I") ∈ tb_T := tb_in (i := 939) (by decide +kernel) (by decide +kernel)
theorem tw_940 : (Cond.fieldLink "MessageHubModel" (108 : Nat) "MessageHubModel" "lives" "[Z") ∈ tb_T := tb_in (i := 940) (by decide +kernel) (by decide +kernel)
theorem tw_941 : (Cond.fieldLink "MessageHubModel" (111 : Nat) "MessageHubModel" "subs" "[I") ∈ tb_T := tb_in (i := 941) (by decide +kernel) (by decide +kernel)
theorem tw_942 : (Cond.fieldLink "MessageHubModel" (114 : Nat) "MessageHubModel" "subText" "[J") ∈ tb_T := tb_in (i := 942) (by decide +kernel) (by decide +kernel)
theorem tw_943 : (Cond.fieldLink "MessageHubModel" (117 : Nat) "MessageHubModel" "subGrade" "[I") ∈ tb_T := tb_in (i := 943) (by decide +kernel) (by decide +kernel)
theorem tw_944 : (Cond.fieldLink "MessageHubModel" (120 : Nat) "MessageHubModel" "subNoLocal" "[Z") ∈ tb_T := tb_in (i := 944) (by decide +kernel) (by decide +kernel)
theorem tw_945 : (Cond.fieldLink "MessageHubModel" (123 : Nat) "MessageHubModel" "away" "[I") ∈ tb_T := tb_in (i := 945) (by decide +kernel) (by decide +kernel)
theorem tw_946 : (Cond.fieldLink "MessageHubModel" (126 : Nat) "MessageHubModel" "queued" "[I") ∈ tb_T := tb_in (i := 946) (by decide +kernel) (by decide +kernel)
theorem tw_947 : (Cond.fieldLink "MessageHubModel" (129 : Nat) "MessageHubModel" "hereText" "[J") ∈ tb_T := tb_in (i := 947) (by decide +kernel) (by decide +kernel)
theorem tw_948 : (Cond.fieldLink "MessageHubModel" (132 : Nat) "MessageHubModel" "hereNumber" "[I") ∈ tb_T := tb_in (i := 948) (by decide +kernel) (by decide +kernel)
theorem tw_949 : (Cond.fieldLink "MessageHubModel" (135 : Nat) "MessageHubModel" "hereGrade" "[I") ∈ tb_T := tb_in (i := 949) (by decide +kernel) (by decide +kernel)
theorem tw_950 : (Cond.fieldLink "MessageHubModel" (138 : Nat) "MessageHubModel" "hereRetain" "[Z") ∈ tb_T := tb_in (i := 950) (by decide +kernel) (by decide +kernel)
theorem tw_951 : (Cond.fieldLink "MessageHubModel" (141 : Nat) "MessageHubModel" "hereStage" "[I") ∈ tb_T := tb_in (i := 951) (by decide +kernel) (by decide +kernel)
theorem tw_952 : (Cond.fieldLink "MessageHubModel" (144 : Nat) "MessageHubModel" "hereId" "[I") ∈ tb_T := tb_in (i := 952) (by decide +kernel) (by decide +kernel)
theorem tw_953 : (Cond.fieldLink "MessageHubModel" (147 : Nat) "MessageHubModel" "brokerHolds" "[Z") ∈ tb_T := tb_in (i := 953) (by decide +kernel) (by decide +kernel)
theorem tw_954 : (Cond.fieldLink "MessageHubModel" (150 : Nat) "MessageHubModel" "expiry" "[I") ∈ tb_T := tb_in (i := 954) (by decide +kernel) (by decide +kernel)
theorem tw_955 : (Cond.fieldLink "MessageHubModel" (153 : Nat) "MessageHubModel" "count" "[I") ∈ tb_T := tb_in (i := 955) (by decide +kernel) (by decide +kernel)
theorem tw_956 : (Cond.fieldLink "MessageHubModel" (309 : Nat) "MessageHubModel" "retains" "I") ∈ tb_T := tb_in (i := 956) (by decide +kernel) (by decide +kernel)
theorem tw_957 : (Cond.fieldLink "MessageHubModel" (156 : Nat) "MessageHubModel" "keptText" "[J") ∈ tb_T := tb_in (i := 957) (by decide +kernel) (by decide +kernel)
theorem tw_958 : (Cond.fieldLink "MessageHubModel" (159 : Nat) "MessageHubModel" "keptNumber" "[I") ∈ tb_T := tb_in (i := 958) (by decide +kernel) (by decide +kernel)
theorem tw_959 : (Cond.fieldLink "MessageHubModel" (162 : Nat) "MessageHubModel" "keptGrade" "[I") ∈ tb_T := tb_in (i := 959) (by decide +kernel) (by decide +kernel)
theorem tw_960 : (Cond.fieldLink "MessageHubModel" (364 : Nat) "MessageHubModel" "failure" "I") ∈ tb_T := tb_in (i := 960) (by decide +kernel) (by decide +kernel)
theorem tw_961 : (Cond.fieldLink "MessageHubModel" (165 : Nat) "MessageHubModel" "one" "[I") ∈ tb_T := tb_in (i := 961) (by decide +kernel) (by decide +kernel)
theorem tw_962 : (Cond.fieldLink "MessageHubModel" (168 : Nat) "MessageHubModel" "two" "[I") ∈ tb_T := tb_in (i := 962) (by decide +kernel) (by decide +kernel)
theorem tw_1096 : (Cond.methodLink "MessageHubLaw" (107 : Nat) ({ cls := "MessageHubModel", name := "matches", desc := "(JJ)Z" } : MethodName)) ∈ tb_T := tb_in (i := 1096) (by decide +kernel) (by decide +kernel)
theorem tw_1097 : (Cond.instanceMethod ({ cls := "MessageHubModel", name := "matches", desc := "(JJ)Z" } : MethodName)) ∈ tb_T := tb_in (i := 1097) (by decide +kernel) (by decide +kernel)
theorem tw_1098 : (Cond.selects "MessageHubModel" ({ cls := "MessageHubModel", name := "matches", desc := "(JJ)Z" } : MethodName) ({ cls := "MessageHubModel", name := "matches", desc := "(JJ)Z" } : MethodName)) ∈ tb_T := tb_in (i := 1098) (by decide +kernel) (by decide +kernel)
theorem tw_1099 : (Cond.code ({ cls := "MessageHubModel", name := "matches", desc := "(JJ)Z" } : MethodName) prog_14_method_10_code (5 : Nat) (Option.some FieldType.boolean)) ∈ tb_T := tb_in (i := 1099) (by decide +kernel) (by decide +kernel)
theorem tw_1100 : (Cond.methodLink "MessageHubModel" (187 : Nat) ({ cls := "MessageHubModel", name := "isFilter", desc := "(J)Z" } : MethodName)) ∈ tb_T := tb_in (i := 1100) (by decide +kernel) (by decide +kernel)
theorem tw_1102 : (Cond.instanceMethod ({ cls := "MessageHubModel", name := "isFilter", desc := "(J)Z" } : MethodName)) ∈ tb_T := tb_in (i := 1102) (by decide +kernel) (by decide +kernel)
theorem tw_1103 : (Cond.code ({ cls := "MessageHubModel", name := "isFilter", desc := "(J)Z" } : MethodName) prog_14_method_7_code (7 : Nat) (Option.some FieldType.boolean)) ∈ tb_T := tb_in (i := 1103) (by decide +kernel) (by decide +kernel)
theorem tw_1104 : (Cond.methodLink "MessageHubModel" (175 : Nat) ({ cls := "MessageHubModel", name := "split", desc := "(J[I)I" } : MethodName)) ∈ tb_T := tb_in (i := 1104) (by decide +kernel) (by decide +kernel)
theorem tw_1105 : (Cond.static ({ cls := "MessageHubModel", name := "split", desc := "(J[I)I" } : MethodName)) ∈ tb_T := tb_in (i := 1105) (by decide +kernel) (by decide +kernel)
theorem tw_1106 : (Cond.code ({ cls := "MessageHubModel", name := "split", desc := "(J[I)I" } : MethodName) prog_14_method_4_code (6 : Nat) (Option.some FieldType.int)) ∈ tb_T := tb_in (i := 1106) (by decide +kernel) (by decide +kernel)
theorem tw_1107 : (Cond.constantLong "MessageHubModel" (171 : Nat) (255 : Int64)) ∈ tb_T := tb_in (i := 1107) (by decide +kernel) (by decide +kernel)
theorem tw_1108 : (Cond.methodLink "MessageHubModel" (179 : Nat) ({ cls := "MessageHubModel", name := "isLetter", desc := "(I)Z" } : MethodName)) ∈ tb_T := tb_in (i := 1108) (by decide +kernel) (by decide +kernel)
theorem tw_1109 : (Cond.static ({ cls := "MessageHubModel", name := "isLetter", desc := "(I)Z" } : MethodName)) ∈ tb_T := tb_in (i := 1109) (by decide +kernel) (by decide +kernel)
theorem tw_1110 : (Cond.code ({ cls := "MessageHubModel", name := "isLetter", desc := "(I)Z" } : MethodName) prog_14_method_5_code (1 : Nat) (Option.some FieldType.boolean)) ∈ tb_T := tb_in (i := 1110) (by decide +kernel) (by decide +kernel)
theorem tw_1111 : (Cond.methodLink "MessageHubModel" (191 : Nat) ({ cls := "MessageHubModel", name := "isTopic", desc := "(J)Z" } : MethodName)) ∈ tb_T := tb_in (i := 1111) (by decide +kernel) (by decide +kernel)
theorem tw_1113 : (Cond.instanceMethod ({ cls := "MessageHubModel", name := "isTopic", desc := "(J)Z" } : MethodName)) ∈ tb_T := tb_in (i := 1113) (by decide +kernel) (by decide +kernel)
theorem tw_1114 : (Cond.code ({ cls := "MessageHubModel", name := "isTopic", desc := "(J)Z" } : MethodName) prog_14_method_6_code (6 : Nat) (Option.some FieldType.boolean)) ∈ tb_T := tb_in (i := 1114) (by decide +kernel) (by decide +kernel)
theorem tw_1115 : (Cond.methodLink "MessageHubModel" (194 : Nat) ({ cls := "MessageHubModel", name := "fits", desc := "(JJ)Z" } : MethodName)) ∈ tb_T := tb_in (i := 1115) (by decide +kernel) (by decide +kernel)
theorem tw_1117 : (Cond.instanceMethod ({ cls := "MessageHubModel", name := "fits", desc := "(JJ)Z" } : MethodName)) ∈ tb_T := tb_in (i := 1117) (by decide +kernel) (by decide +kernel)
theorem tw_1118 : (Cond.code ({ cls := "MessageHubModel", name := "fits", desc := "(JJ)Z" } : MethodName) prog_14_method_9_code (15 : Nat) (Option.some FieldType.boolean)) ∈ tb_T := tb_in (i := 1118) (by decide +kernel) (by decide +kernel)
theorem tw_1119 : (Cond.methodLink "MessageHubModel" (183 : Nat) ({ cls := "MessageHubModel", name := "levelEnd", desc := "([III)I" } : MethodName)) ∈ tb_T := tb_in (i := 1119) (by decide +kernel) (by decide +kernel)
theorem tw_1120 : (Cond.static ({ cls := "MessageHubModel", name := "levelEnd", desc := "([III)I" } : MethodName)) ∈ tb_T := tb_in (i := 1120) (by decide +kernel) (by decide +kernel)
theorem tw_1121 : (Cond.code ({ cls := "MessageHubModel", name := "levelEnd", desc := "([III)I" } : MethodName) prog_14_method_8_code (4 : Nat) (Option.some FieldType.int)) ∈ tb_T := tb_in (i := 1121) (by decide +kernel) (by decide +kernel)
theorem tw_1122 : (Cond.methodLink "MessageHubLaw" (19 : Nat) ({ cls := "MessageHubModel", name := "will", desc := "(IJI)Z" } : MethodName)) ∈ tb_T := tb_in (i := 1122) (by decide +kernel) (by decide +kernel)
theorem tw_1123 : (Cond.instanceMethod ({ cls := "MessageHubModel", name := "will", desc := "(IJI)Z" } : MethodName)) ∈ tb_T := tb_in (i := 1123) (by decide +kernel) (by decide +kernel)
theorem tw_1124 : (Cond.selects "MessageHubModel" ({ cls := "MessageHubModel", name := "will", desc := "(IJI)Z" } : MethodName) ({ cls := "MessageHubModel", name := "will", desc := "(IJI)Z" } : MethodName)) ∈ tb_T := tb_in (i := 1124) (by decide +kernel) (by decide +kernel)
theorem tw_1125 : (Cond.code ({ cls := "MessageHubModel", name := "will", desc := "(IJI)Z" } : MethodName) prog_14_method_47_code (5 : Nat) (Option.some FieldType.boolean)) ∈ tb_T := tb_in (i := 1125) (by decide +kernel) (by decide +kernel)
theorem tw_1126 : (Cond.methodLink "MessageHubModel" (348 : Nat) ({ cls := "MessageHubModel", name := "isClient", desc := "(I)Z" } : MethodName)) ∈ tb_T := tb_in (i := 1126) (by decide +kernel) (by decide +kernel)
theorem tw_1127 : (Cond.static ({ cls := "MessageHubModel", name := "isClient", desc := "(I)Z" } : MethodName)) ∈ tb_T := tb_in (i := 1127) (by decide +kernel) (by decide +kernel)
theorem tw_1128 : (Cond.code ({ cls := "MessageHubModel", name := "isClient", desc := "(I)Z" } : MethodName) prog_14_method_2_code (1 : Nat) (Option.some FieldType.boolean)) ∈ tb_T := tb_in (i := 1128) (by decide +kernel) (by decide +kernel)
theorem tw_1129 : (Cond.methodLink "MessageHubModel" (351 : Nat) ({ cls := "MessageHubModel", name := "plain", desc := "(J)J" } : MethodName)) ∈ tb_T := tb_in (i := 1129) (by decide +kernel) (by decide +kernel)
theorem tw_1130 : (Cond.static ({ cls := "MessageHubModel", name := "plain", desc := "(J)J" } : MethodName)) ∈ tb_T := tb_in (i := 1130) (by decide +kernel) (by decide +kernel)
theorem tw_1131 : (Cond.code ({ cls := "MessageHubModel", name := "plain", desc := "(J)J" } : MethodName) prog_14_method_3_code (7 : Nat) (Option.some FieldType.long)) ∈ tb_T := tb_in (i := 1131) (by decide +kernel) (by decide +kernel)
theorem tw_1132 : (Cond.constantLong "MessageHubModel" (173 : Nat) (256 : Int64)) ∈ tb_T := tb_in (i := 1132) (by decide +kernel) (by decide +kernel)
theorem tw_1133 : (Cond.methodLink "MessageHubLaw" (24 : Nat) ({ cls := "MessageHubModel", name := "connect", desc := "(IZIII)Z" } : MethodName)) ∈ tb_T := tb_in (i := 1133) (by decide +kernel) (by decide +kernel)
theorem tw_1134 : (Cond.instanceMethod ({ cls := "MessageHubModel", name := "connect", desc := "(IZIII)Z" } : MethodName)) ∈ tb_T := tb_in (i := 1134) (by decide +kernel) (by decide +kernel)
theorem tw_1135 : (Cond.selects "MessageHubModel" ({ cls := "MessageHubModel", name := "connect", desc := "(IZIII)Z" } : MethodName) ({ cls := "MessageHubModel", name := "connect", desc := "(IZIII)Z" } : MethodName)) ∈ tb_T := tb_in (i := 1135) (by decide +kernel) (by decide +kernel)
theorem tw_1136 : (Cond.code ({ cls := "MessageHubModel", name := "connect", desc := "(IZIII)Z" } : MethodName) prog_14_method_48_code (7 : Nat) (Option.some FieldType.boolean)) ∈ tb_T := tb_in (i := 1136) (by decide +kernel) (by decide +kernel)
theorem tw_1137 : (Cond.methodLink "MessageHubModel" (198 : Nat) ({ cls := "MessageHubModel", name := "send", desc := "(IIII)I" } : MethodName)) ∈ tb_T := tb_in (i := 1137) (by decide +kernel) (by decide +kernel)
theorem tw_1139 : (Cond.instanceMethod ({ cls := "MessageHubModel", name := "send", desc := "(IIII)I" } : MethodName)) ∈ tb_T := tb_in (i := 1139) (by decide +kernel) (by decide +kernel)
theorem tw_1140 : (Cond.code ({ cls := "MessageHubModel", name := "send", desc := "(IIII)I" } : MethodName) prog_14_method_11_code (6 : Nat) (Option.some FieldType.int)) ∈ tb_T := tb_in (i := 1140) (by decide +kernel) (by decide +kernel)
theorem tw_1141 : (Cond.methodLink "MessageHubLaw" (29 : Nat) ({ cls := "MessageHubModel", name := "drop", desc := "(I)Z" } : MethodName)) ∈ tb_T := tb_in (i := 1141) (by decide +kernel) (by decide +kernel)
theorem tw_1142 : (Cond.instanceMethod ({ cls := "MessageHubModel", name := "drop", desc := "(I)Z" } : MethodName)) ∈ tb_T := tb_in (i := 1142) (by decide +kernel) (by decide +kernel)
theorem tw_1143 : (Cond.selects "MessageHubModel" ({ cls := "MessageHubModel", name := "drop", desc := "(I)Z" } : MethodName) ({ cls := "MessageHubModel", name := "drop", desc := "(I)Z" } : MethodName)) ∈ tb_T := tb_in (i := 1143) (by decide +kernel) (by decide +kernel)
theorem tw_1144 : (Cond.code ({ cls := "MessageHubModel", name := "drop", desc := "(I)Z" } : MethodName) prog_14_method_49_code (2 : Nat) (Option.some FieldType.boolean)) ∈ tb_T := tb_in (i := 1144) (by decide +kernel) (by decide +kernel)
theorem tw_1145 : (Cond.methodLink "MessageHubModel" (274 : Nat) ({ cls := "MessageHubModel", name := "closeLink", desc := "(I)V" } : MethodName)) ∈ tb_T := tb_in (i := 1145) (by decide +kernel) (by decide +kernel)
theorem tw_1147 : (Cond.instanceMethod ({ cls := "MessageHubModel", name := "closeLink", desc := "(I)V" } : MethodName)) ∈ tb_T := tb_in (i := 1147) (by decide +kernel) (by decide +kernel)
theorem tw_1148 : (Cond.code ({ cls := "MessageHubModel", name := "closeLink", desc := "(I)V" } : MethodName) prog_14_method_15_code (2 : Nat) (Option.none : Option FieldType)) ∈ tb_T := tb_in (i := 1148) (by decide +kernel) (by decide +kernel)
theorem tw_1149 : (Cond.methodLink "MessageHubLaw" (33 : Nat) ({ cls := "MessageHubModel", name := "leave", desc := "(I)Z" } : MethodName)) ∈ tb_T := tb_in (i := 1149) (by decide +kernel) (by decide +kernel)
theorem tw_1150 : (Cond.instanceMethod ({ cls := "MessageHubModel", name := "leave", desc := "(I)Z" } : MethodName)) ∈ tb_T := tb_in (i := 1150) (by decide +kernel) (by decide +kernel)
theorem tw_1151 : (Cond.selects "MessageHubModel" ({ cls := "MessageHubModel", name := "leave", desc := "(I)Z" } : MethodName) ({ cls := "MessageHubModel", name := "leave", desc := "(I)Z" } : MethodName)) ∈ tb_T := tb_in (i := 1151) (by decide +kernel) (by decide +kernel)
theorem tw_1152 : (Cond.code ({ cls := "MessageHubModel", name := "leave", desc := "(I)Z" } : MethodName) prog_14_method_51_code (2 : Nat) (Option.some FieldType.boolean)) ∈ tb_T := tb_in (i := 1152) (by decide +kernel) (by decide +kernel)
theorem tw_1153 : (Cond.methodLink "MessageHubModel" (355 : Nat) ({ cls := "MessageHubModel", name := "speaks", desc := "(I)Z" } : MethodName)) ∈ tb_T := tb_in (i := 1153) (by decide +kernel) (by decide +kernel)
theorem tw_1155 : (Cond.instanceMethod ({ cls := "MessageHubModel", name := "speaks", desc := "(I)Z" } : MethodName)) ∈ tb_T := tb_in (i := 1155) (by decide +kernel) (by decide +kernel)
theorem tw_1156 : (Cond.code ({ cls := "MessageHubModel", name := "speaks", desc := "(I)Z" } : MethodName) prog_14_method_50_code (2 : Nat) (Option.some FieldType.boolean)) ∈ tb_T := tb_in (i := 1156) (by decide +kernel) (by decide +kernel)
theorem tw_1157 : (Cond.methodLink "MessageHubLaw" (37 : Nat) ({ cls := "MessageHubModel", name := "ping", desc := "(I)Z" } : MethodName)) ∈ tb_T := tb_in (i := 1157) (by decide +kernel) (by decide +kernel)
theorem tw_1158 : (Cond.instanceMethod ({ cls := "MessageHubModel", name := "ping", desc := "(I)Z" } : MethodName)) ∈ tb_T := tb_in (i := 1158) (by decide +kernel) (by decide +kernel)
theorem tw_1159 : (Cond.selects "MessageHubModel" ({ cls := "MessageHubModel", name := "ping", desc := "(I)Z" } : MethodName) ({ cls := "MessageHubModel", name := "ping", desc := "(I)Z" } : MethodName)) ∈ tb_T := tb_in (i := 1159) (by decide +kernel) (by decide +kernel)
theorem tw_1160 : (Cond.code ({ cls := "MessageHubModel", name := "ping", desc := "(I)Z" } : MethodName) prog_14_method_52_code (2 : Nat) (Option.some FieldType.boolean)) ∈ tb_T := tb_in (i := 1160) (by decide +kernel) (by decide +kernel)
theorem tw_1161 : (Cond.methodLink "MessageHubLaw" (42 : Nat) ({ cls := "MessageHubModel", name := "subscribe", desc := "(IJIZ)Z" } : MethodName)) ∈ tb_T := tb_in (i := 1161) (by decide +kernel) (by decide +kernel)
theorem tw_1162 : (Cond.instanceMethod ({ cls := "MessageHubModel", name := "subscribe", desc := "(IJIZ)Z" } : MethodName)) ∈ tb_T := tb_in (i := 1162) (by decide +kernel) (by decide +kernel)
theorem tw_1163 : (Cond.selects "MessageHubModel" ({ cls := "MessageHubModel", name := "subscribe", desc := "(IJIZ)Z" } : MethodName) ({ cls := "MessageHubModel", name := "subscribe", desc := "(IJIZ)Z" } : MethodName)) ∈ tb_T := tb_in (i := 1163) (by decide +kernel) (by decide +kernel)
theorem tw_1164 : (Cond.code ({ cls := "MessageHubModel", name := "subscribe", desc := "(IJIZ)Z" } : MethodName) prog_14_method_53_code (7 : Nat) (Option.some FieldType.boolean)) ∈ tb_T := tb_in (i := 1164) (by decide +kernel) (by decide +kernel)
theorem tw_1165 : (Cond.methodLink "MessageHubLaw" (47 : Nat) ({ cls := "MessageHubModel", name := "unsubscribe", desc := "(IJ)Z" } : MethodName)) ∈ tb_T := tb_in (i := 1165) (by decide +kernel) (by decide +kernel)
theorem tw_1166 : (Cond.instanceMethod ({ cls := "MessageHubModel", name := "unsubscribe", desc := "(IJ)Z" } : MethodName)) ∈ tb_T := tb_in (i := 1166) (by decide +kernel) (by decide +kernel)
theorem tw_1167 : (Cond.selects "MessageHubModel" ({ cls := "MessageHubModel", name := "unsubscribe", desc := "(IJ)Z" } : MethodName) ({ cls := "MessageHubModel", name := "unsubscribe", desc := "(IJ)Z" } : MethodName)) ∈ tb_T := tb_in (i := 1167) (by decide +kernel) (by decide +kernel)
theorem tw_1168 : (Cond.code ({ cls := "MessageHubModel", name := "unsubscribe", desc := "(IJ)Z" } : MethodName) prog_14_method_54_code (5 : Nat) (Option.some FieldType.boolean)) ∈ tb_T := tb_in (i := 1168) (by decide +kernel) (by decide +kernel)
theorem tw_1169 : (Cond.methodLink "MessageHubLaw" (52 : Nat) ({ cls := "MessageHubModel", name := "publish", desc := "(IJIIZ)Z" } : MethodName)) ∈ tb_T := tb_in (i := 1169) (by decide +kernel) (by decide +kernel)
theorem tw_1170 : (Cond.instanceMethod ({ cls := "MessageHubModel", name := "publish", desc := "(IJIIZ)Z" } : MethodName)) ∈ tb_T := tb_in (i := 1170) (by decide +kernel) (by decide +kernel)
theorem tw_1171 : (Cond.selects "MessageHubModel" ({ cls := "MessageHubModel", name := "publish", desc := "(IJIIZ)Z" } : MethodName) ({ cls := "MessageHubModel", name := "publish", desc := "(IJIIZ)Z" } : MethodName)) ∈ tb_T := tb_in (i := 1171) (by decide +kernel) (by decide +kernel)
theorem tw_1172 : (Cond.code ({ cls := "MessageHubModel", name := "publish", desc := "(IJIIZ)Z" } : MethodName) prog_14_method_55_code (10 : Nat) (Option.some FieldType.boolean)) ∈ tb_T := tb_in (i := 1172) (by decide +kernel) (by decide +kernel)
theorem tw_1173 : (Cond.methodLink "MessageHubModel" (235 : Nat) ({ cls := "MessageHubModel", name := "sendPublish", desc := "(IJIII)V" } : MethodName)) ∈ tb_T := tb_in (i := 1173) (by decide +kernel) (by decide +kernel)
theorem tw_1175 : (Cond.instanceMethod ({ cls := "MessageHubModel", name := "sendPublish", desc := "(IJIII)V" } : MethodName)) ∈ tb_T := tb_in (i := 1175) (by decide +kernel) (by decide +kernel)
theorem tw_1176 : (Cond.code ({ cls := "MessageHubModel", name := "sendPublish", desc := "(IJIII)V" } : MethodName) prog_14_method_12_code (8 : Nat) (Option.none : Option FieldType)) ∈ tb_T := tb_in (i := 1176) (by decide +kernel) (by decide +kernel)
theorem tw_1177 : (Cond.methodLink "MessageHubModel" (239 : Nat) ({ cls := "MessageHubModel", name := "marked", desc := "(IZZ)V" } : MethodName)) ∈ tb_T := tb_in (i := 1177) (by decide +kernel) (by decide +kernel)
theorem tw_1179 : (Cond.instanceMethod ({ cls := "MessageHubModel", name := "marked", desc := "(IZZ)V" } : MethodName)) ∈ tb_T := tb_in (i := 1179) (by decide +kernel) (by decide +kernel)
theorem tw_1180 : (Cond.code ({ cls := "MessageHubModel", name := "marked", desc := "(IZZ)V" } : MethodName) prog_14_method_13_code (5 : Nat) (Option.none : Option FieldType)) ∈ tb_T := tb_in (i := 1180) (by decide +kernel) (by decide +kernel)
theorem tw_1181 : (Cond.methodLink "MessageHubModel" (258 : Nat) ({ cls := "MessageHubModel", name := "pumpClient", desc := "(I)V" } : MethodName)) ∈ tb_T := tb_in (i := 1181) (by decide +kernel) (by decide +kernel)
theorem tw_1183 : (Cond.instanceMethod ({ cls := "MessageHubModel", name := "pumpClient", desc := "(I)V" } : MethodName)) ∈ tb_T := tb_in (i := 1183) (by decide +kernel) (by decide +kernel)
theorem tw_1184 : (Cond.code ({ cls := "MessageHubModel", name := "pumpClient", desc := "(I)V" } : MethodName) prog_14_method_20_code (4 : Nat) (Option.none : Option FieldType)) ∈ tb_T := tb_in (i := 1184) (by decide +kernel) (by decide +kernel)
theorem tw_1185 : (Cond.methodLink "MessageHubModel" (243 : Nat) ({ cls := "MessageHubModel", name := "underWay", desc := "(I)I" } : MethodName)) ∈ tb_T := tb_in (i := 1185) (by decide +kernel) (by decide +kernel)
theorem tw_1187 : (Cond.instanceMethod ({ cls := "MessageHubModel", name := "underWay", desc := "(I)I" } : MethodName)) ∈ tb_T := tb_in (i := 1187) (by decide +kernel) (by decide +kernel)
theorem tw_1188 : (Cond.code ({ cls := "MessageHubModel", name := "underWay", desc := "(I)I" } : MethodName) prog_14_method_17_code (4 : Nat) (Option.some FieldType.int)) ∈ tb_T := tb_in (i := 1188) (by decide +kernel) (by decide +kernel)
theorem tw_1189 : (Cond.methodLink "MessageHubModel" (247 : Nat) ({ cls := "MessageHubModel", name := "freeId", desc := "(I)I" } : MethodName)) ∈ tb_T := tb_in (i := 1189) (by decide +kernel) (by decide +kernel)
theorem tw_1191 : (Cond.instanceMethod ({ cls := "MessageHubModel", name := "freeId", desc := "(I)I" } : MethodName)) ∈ tb_T := tb_in (i := 1191) (by decide +kernel) (by decide +kernel)
theorem tw_1192 : (Cond.code ({ cls := "MessageHubModel", name := "freeId", desc := "(I)I" } : MethodName) prog_14_method_18_code (5 : Nat) (Option.some FieldType.int)) ∈ tb_T := tb_in (i := 1192) (by decide +kernel) (by decide +kernel)
theorem tw_1193 : (Cond.methodLink "MessageHubModel" (250 : Nat) ({ cls := "MessageHubModel", name := "sendStored", desc := "(IIZ)V" } : MethodName)) ∈ tb_T := tb_in (i := 1193) (by decide +kernel) (by decide +kernel)
theorem tw_1195 : (Cond.instanceMethod ({ cls := "MessageHubModel", name := "sendStored", desc := "(IIZ)V" } : MethodName)) ∈ tb_T := tb_in (i := 1195) (by decide +kernel) (by decide +kernel)
theorem tw_1196 : (Cond.code ({ cls := "MessageHubModel", name := "sendStored", desc := "(IIZ)V" } : MethodName) prog_14_method_19_code (4 : Nat) (Option.none : Option FieldType)) ∈ tb_T := tb_in (i := 1196) (by decide +kernel) (by decide +kernel)
theorem tw_1197 : (Cond.methodLink "MessageHubLaw" (57 : Nat) ({ cls := "MessageHubModel", name := "deliver", desc := "(IZ)I" } : MethodName)) ∈ tb_T := tb_in (i := 1197) (by decide +kernel) (by decide +kernel)
theorem tw_1198 : (Cond.instanceMethod ({ cls := "MessageHubModel", name := "deliver", desc := "(IZ)I" } : MethodName)) ∈ tb_T := tb_in (i := 1198) (by decide +kernel) (by decide +kernel)
theorem tw_1199 : (Cond.selects "MessageHubModel" ({ cls := "MessageHubModel", name := "deliver", desc := "(IZ)I" } : MethodName) ({ cls := "MessageHubModel", name := "deliver", desc := "(IZ)I" } : MethodName)) ∈ tb_T := tb_in (i := 1199) (by decide +kernel) (by decide +kernel)
theorem tw_1200 : (Cond.code ({ cls := "MessageHubModel", name := "deliver", desc := "(IZ)I" } : MethodName) prog_14_method_56_code (6 : Nat) (Option.some FieldType.int)) ∈ tb_T := tb_in (i := 1200) (by decide +kernel) (by decide +kernel)
theorem tw_1201 : (Cond.methodLink "MessageHubModel" (358 : Nat) ({ cls := "MessageHubModel", name := "takeFirst", desc := "(I)V" } : MethodName)) ∈ tb_T := tb_in (i := 1201) (by decide +kernel) (by decide +kernel)
theorem tw_1203 : (Cond.instanceMethod ({ cls := "MessageHubModel", name := "takeFirst", desc := "(I)V" } : MethodName)) ∈ tb_T := tb_in (i := 1203) (by decide +kernel) (by decide +kernel)
theorem tw_1204 : (Cond.code ({ cls := "MessageHubModel", name := "takeFirst", desc := "(I)V" } : MethodName) prog_14_method_14_code (4 : Nat) (Option.none : Option FieldType)) ∈ tb_T := tb_in (i := 1204) (by decide +kernel) (by decide +kernel)
theorem tw_1205 : (Cond.methodLink "MessageHubModel" (361 : Nat) ({ cls := "MessageHubModel", name := "clientGets", desc := "(I)V" } : MethodName)) ∈ tb_T := tb_in (i := 1205) (by decide +kernel) (by decide +kernel)
theorem tw_1207 : (Cond.instanceMethod ({ cls := "MessageHubModel", name := "clientGets", desc := "(I)V" } : MethodName)) ∈ tb_T := tb_in (i := 1207) (by decide +kernel) (by decide +kernel)
theorem tw_1208 : (Cond.code ({ cls := "MessageHubModel", name := "clientGets", desc := "(I)V" } : MethodName) prog_14_method_24_code (3 : Nat) (Option.none : Option FieldType)) ∈ tb_T := tb_in (i := 1208) (by decide +kernel) (by decide +kernel)
theorem tw_1209 : (Cond.methodLink "MessageHubModel" (262 : Nat) ({ cls := "MessageHubModel", name := "greeted", desc := "(I)V" } : MethodName)) ∈ tb_T := tb_in (i := 1209) (by decide +kernel) (by decide +kernel)
theorem tw_1211 : (Cond.instanceMethod ({ cls := "MessageHubModel", name := "greeted", desc := "(I)V" } : MethodName)) ∈ tb_T := tb_in (i := 1211) (by decide +kernel) (by decide +kernel)
theorem tw_1212 : (Cond.code ({ cls := "MessageHubModel", name := "greeted", desc := "(I)V" } : MethodName) prog_14_method_22_code (4 : Nat) (Option.none : Option FieldType)) ∈ tb_T := tb_in (i := 1212) (by decide +kernel) (by decide +kernel)
theorem tw_1213 : (Cond.methodLink "MessageHubModel" (254 : Nat) ({ cls := "MessageHubModel", name := "forget", desc := "(II)V" } : MethodName)) ∈ tb_T := tb_in (i := 1213) (by decide +kernel) (by decide +kernel)
theorem tw_1215 : (Cond.instanceMethod ({ cls := "MessageHubModel", name := "forget", desc := "(II)V" } : MethodName)) ∈ tb_T := tb_in (i := 1215) (by decide +kernel) (by decide +kernel)
theorem tw_1216 : (Cond.code ({ cls := "MessageHubModel", name := "forget", desc := "(II)V" } : MethodName) prog_14_method_16_code (4 : Nat) (Option.none : Option FieldType)) ∈ tb_T := tb_in (i := 1216) (by decide +kernel) (by decide +kernel)
theorem tw_1217 : (Cond.methodLink "MessageHubModel" (265 : Nat) ({ cls := "MessageHubModel", name := "inboxed", desc := "(I)V" } : MethodName)) ∈ tb_T := tb_in (i := 1217) (by decide +kernel) (by decide +kernel)
theorem tw_1219 : (Cond.instanceMethod ({ cls := "MessageHubModel", name := "inboxed", desc := "(I)V" } : MethodName)) ∈ tb_T := tb_in (i := 1219) (by decide +kernel) (by decide +kernel)
theorem tw_1220 : (Cond.code ({ cls := "MessageHubModel", name := "inboxed", desc := "(I)V" } : MethodName) prog_14_method_23_code (2 : Nat) (Option.none : Option FieldType)) ∈ tb_T := tb_in (i := 1220) (by decide +kernel) (by decide +kernel)
theorem tw_1221 : (Cond.methodLink "MessageHubModel" (268 : Nat) ({ cls := "MessageHubModel", name := "clientAnswered", desc := "(I)V" } : MethodName)) ∈ tb_T := tb_in (i := 1221) (by decide +kernel) (by decide +kernel)
theorem tw_1223 : (Cond.instanceMethod ({ cls := "MessageHubModel", name := "clientAnswered", desc := "(I)V" } : MethodName)) ∈ tb_T := tb_in (i := 1223) (by decide +kernel) (by decide +kernel)
theorem tw_1224 : (Cond.code ({ cls := "MessageHubModel", name := "clientAnswered", desc := "(I)V" } : MethodName) prog_14_method_25_code (4 : Nat) (Option.none : Option FieldType)) ∈ tb_T := tb_in (i := 1224) (by decide +kernel) (by decide +kernel)
theorem tw_1225 : (Cond.methodLink "MessageHubModel" (271 : Nat) ({ cls := "MessageHubModel", name := "storePlace", desc := "(I)I" } : MethodName)) ∈ tb_T := tb_in (i := 1225) (by decide +kernel) (by decide +kernel)
theorem tw_1227 : (Cond.instanceMethod ({ cls := "MessageHubModel", name := "storePlace", desc := "(I)I" } : MethodName)) ∈ tb_T := tb_in (i := 1227) (by decide +kernel) (by decide +kernel)
theorem tw_1228 : (Cond.code ({ cls := "MessageHubModel", name := "storePlace", desc := "(I)I" } : MethodName) prog_14_method_21_code (3 : Nat) (Option.some FieldType.int)) ∈ tb_T := tb_in (i := 1228) (by decide +kernel) (by decide +kernel)
theorem tw_1229 : (Cond.methodLink "MessageHubModel" (367 : Nat) ({ cls := "MessageHubModel", name := "brokerGets", desc := "(I)V" } : MethodName)) ∈ tb_T := tb_in (i := 1229) (by decide +kernel) (by decide +kernel)
theorem tw_1231 : (Cond.instanceMethod ({ cls := "MessageHubModel", name := "brokerGets", desc := "(I)V" } : MethodName)) ∈ tb_T := tb_in (i := 1231) (by decide +kernel) (by decide +kernel)
theorem tw_1232 : (Cond.code ({ cls := "MessageHubModel", name := "brokerGets", desc := "(I)V" } : MethodName) prog_14_method_46_code (2 : Nat) (Option.none : Option FieldType)) ∈ tb_T := tb_in (i := 1232) (by decide +kernel) (by decide +kernel)
theorem tw_1233 : (Cond.methodLink "MessageHubModel" (333 : Nat) ({ cls := "MessageHubModel", name := "opened", desc := "(I)V" } : MethodName)) ∈ tb_T := tb_in (i := 1233) (by decide +kernel) (by decide +kernel)
theorem tw_1235 : (Cond.instanceMethod ({ cls := "MessageHubModel", name := "opened", desc := "(I)V" } : MethodName)) ∈ tb_T := tb_in (i := 1235) (by decide +kernel) (by decide +kernel)
theorem tw_1236 : (Cond.code ({ cls := "MessageHubModel", name := "opened", desc := "(I)V" } : MethodName) prog_14_method_38_code (4 : Nat) (Option.none : Option FieldType)) ∈ tb_T := tb_in (i := 1236) (by decide +kernel) (by decide +kernel)
theorem tw_1237 : (Cond.methodLink "MessageHubModel" (316 : Nat) ({ cls := "MessageHubModel", name := "closeConnection", desc := "(IZ)V" } : MethodName)) ∈ tb_T := tb_in (i := 1237) (by decide +kernel) (by decide +kernel)
theorem tw_1239 : (Cond.instanceMethod ({ cls := "MessageHubModel", name := "closeConnection", desc := "(IZ)V" } : MethodName)) ∈ tb_T := tb_in (i := 1239) (by decide +kernel) (by decide +kernel)
theorem tw_1240 : (Cond.code ({ cls := "MessageHubModel", name := "closeConnection", desc := "(IZ)V" } : MethodName) prog_14_method_27_code (4 : Nat) (Option.none : Option FieldType)) ∈ tb_T := tb_in (i := 1240) (by decide +kernel) (by decide +kernel)
theorem tw_1241 : (Cond.methodLink "MessageHubModel" (277 : Nat) ({ cls := "MessageHubModel", name := "endSession", desc := "(I)V" } : MethodName)) ∈ tb_T := tb_in (i := 1241) (by decide +kernel) (by decide +kernel)
theorem tw_1243 : (Cond.instanceMethod ({ cls := "MessageHubModel", name := "endSession", desc := "(I)V" } : MethodName)) ∈ tb_T := tb_in (i := 1243) (by decide +kernel) (by decide +kernel)
theorem tw_1244 : (Cond.code ({ cls := "MessageHubModel", name := "endSession", desc := "(I)V" } : MethodName) prog_14_method_26_code (3 : Nat) (Option.none : Option FieldType)) ∈ tb_T := tb_in (i := 1244) (by decide +kernel) (by decide +kernel)
theorem tw_1245 : (Cond.methodLink "MessageHubModel" (280 : Nat) ({ cls := "MessageHubModel", name := "accept", desc := "(IJIIZ)Z" } : MethodName)) ∈ tb_T := tb_in (i := 1245) (by decide +kernel) (by decide +kernel)
theorem tw_1247 : (Cond.instanceMethod ({ cls := "MessageHubModel", name := "accept", desc := "(IJIIZ)Z" } : MethodName)) ∈ tb_T := tb_in (i := 1247) (by decide +kernel) (by decide +kernel)
theorem tw_1248 : (Cond.code ({ cls := "MessageHubModel", name := "accept", desc := "(IJIIZ)Z" } : MethodName) prog_14_method_34_code (10 : Nat) (Option.some FieldType.boolean)) ∈ tb_T := tb_in (i := 1248) (by decide +kernel) (by decide +kernel)
theorem tw_1249 : (Cond.methodLink "MessageHubModel" (291 : Nat) ({ cls := "MessageHubModel", name := "wants", desc := "(IIIJ)Z" } : MethodName)) ∈ tb_T := tb_in (i := 1249) (by decide +kernel) (by decide +kernel)
theorem tw_1251 : (Cond.instanceMethod ({ cls := "MessageHubModel", name := "wants", desc := "(IIIJ)Z" } : MethodName)) ∈ tb_T := tb_in (i := 1251) (by decide +kernel) (by decide +kernel)
theorem tw_1252 : (Cond.code ({ cls := "MessageHubModel", name := "wants", desc := "(IIIJ)Z" } : MethodName) prog_14_method_32_code (7 : Nat) (Option.some FieldType.boolean)) ∈ tb_T := tb_in (i := 1252) (by decide +kernel) (by decide +kernel)
theorem tw_1253 : (Cond.methodLink "MessageHubModel" (295 : Nat) ({ cls := "MessageHubModel", name := "lesser", desc := "(II)I" } : MethodName)) ∈ tb_T := tb_in (i := 1253) (by decide +kernel) (by decide +kernel)
theorem tw_1254 : (Cond.static ({ cls := "MessageHubModel", name := "lesser", desc := "(II)I" } : MethodName)) ∈ tb_T := tb_in (i := 1254) (by decide +kernel) (by decide +kernel)
theorem tw_1255 : (Cond.code ({ cls := "MessageHubModel", name := "lesser", desc := "(II)I" } : MethodName) prog_14_method_33_code (2 : Nat) (Option.some FieldType.int)) ∈ tb_T := tb_in (i := 1255) (by decide +kernel) (by decide +kernel)
theorem tw_1256 : (Cond.methodLink "MessageHubModel" (299 : Nat) ({ cls := "MessageHubModel", name := "copy", desc := "(IJIIZ)V" } : MethodName)) ∈ tb_T := tb_in (i := 1256) (by decide +kernel) (by decide +kernel)
theorem tw_1258 : (Cond.instanceMethod ({ cls := "MessageHubModel", name := "copy", desc := "(IJIIZ)V" } : MethodName)) ∈ tb_T := tb_in (i := 1258) (by decide +kernel) (by decide +kernel)
theorem tw_1259 : (Cond.code ({ cls := "MessageHubModel", name := "copy", desc := "(IJIIZ)V" } : MethodName) prog_14_method_29_code (7 : Nat) (Option.none : Option FieldType)) ∈ tb_T := tb_in (i := 1259) (by decide +kernel) (by decide +kernel)
theorem tw_1260 : (Cond.methodLink "MessageHubModel" (284 : Nat) ({ cls := "MessageHubModel", name := "join", desc := "(IJIIZ)V" } : MethodName)) ∈ tb_T := tb_in (i := 1260) (by decide +kernel) (by decide +kernel)
theorem tw_1262 : (Cond.instanceMethod ({ cls := "MessageHubModel", name := "join", desc := "(IJIIZ)V" } : MethodName)) ∈ tb_T := tb_in (i := 1262) (by decide +kernel) (by decide +kernel)
theorem tw_1263 : (Cond.code ({ cls := "MessageHubModel", name := "join", desc := "(IJIIZ)V" } : MethodName) prog_14_method_28_code (8 : Nat) (Option.none : Option FieldType)) ∈ tb_T := tb_in (i := 1263) (by decide +kernel) (by decide +kernel)
theorem tw_1264 : (Cond.methodLink "MessageHubModel" (302 : Nat) ({ cls := "MessageHubModel", name := "retain", desc := "(JII)V" } : MethodName)) ∈ tb_T := tb_in (i := 1264) (by decide +kernel) (by decide +kernel)
theorem tw_1266 : (Cond.instanceMethod ({ cls := "MessageHubModel", name := "retain", desc := "(JII)V" } : MethodName)) ∈ tb_T := tb_in (i := 1266) (by decide +kernel) (by decide +kernel)
theorem tw_1267 : (Cond.code ({ cls := "MessageHubModel", name := "retain", desc := "(JII)V" } : MethodName) prog_14_method_36_code (7 : Nat) (Option.none : Option FieldType)) ∈ tb_T := tb_in (i := 1267) (by decide +kernel) (by decide +kernel)
theorem tw_1268 : (Cond.methodLink "MessageHubModel" (312 : Nat) ({ cls := "MessageHubModel", name := "keptPlace", desc := "(J)I" } : MethodName)) ∈ tb_T := tb_in (i := 1268) (by decide +kernel) (by decide +kernel)
theorem tw_1270 : (Cond.instanceMethod ({ cls := "MessageHubModel", name := "keptPlace", desc := "(J)I" } : MethodName)) ∈ tb_T := tb_in (i := 1270) (by decide +kernel) (by decide +kernel)
theorem tw_1271 : (Cond.code ({ cls := "MessageHubModel", name := "keptPlace", desc := "(J)I" } : MethodName) prog_14_method_35_code (4 : Nat) (Option.some FieldType.int)) ∈ tb_T := tb_in (i := 1271) (by decide +kernel) (by decide +kernel)
theorem tw_1272 : (Cond.methodLink "MessageHubModel" (306 : Nat) ({ cls := "MessageHubModel", name := "pumpSession", desc := "(I)V" } : MethodName)) ∈ tb_T := tb_in (i := 1272) (by decide +kernel) (by decide +kernel)
theorem tw_1274 : (Cond.instanceMethod ({ cls := "MessageHubModel", name := "pumpSession", desc := "(I)V" } : MethodName)) ∈ tb_T := tb_in (i := 1274) (by decide +kernel) (by decide +kernel)
theorem tw_1275 : (Cond.code ({ cls := "MessageHubModel", name := "pumpSession", desc := "(I)V" } : MethodName) prog_14_method_31_code (5 : Nat) (Option.none : Option FieldType)) ∈ tb_T := tb_in (i := 1275) (by decide +kernel) (by decide +kernel)
theorem tw_1276 : (Cond.methodLink "MessageHubModel" (288 : Nat) ({ cls := "MessageHubModel", name := "sendHere", desc := "(IIZ)V" } : MethodName)) ∈ tb_T := tb_in (i := 1276) (by decide +kernel) (by decide +kernel)
theorem tw_1278 : (Cond.instanceMethod ({ cls := "MessageHubModel", name := "sendHere", desc := "(IIZ)V" } : MethodName)) ∈ tb_T := tb_in (i := 1278) (by decide +kernel) (by decide +kernel)
theorem tw_1279 : (Cond.code ({ cls := "MessageHubModel", name := "sendHere", desc := "(IIZ)V" } : MethodName) prog_14_method_30_code (4 : Nat) (Option.none : Option FieldType)) ∈ tb_T := tb_in (i := 1279) (by decide +kernel) (by decide +kernel)
theorem tw_1280 : (Cond.methodLink "MessageHubModel" (320 : Nat) ({ cls := "MessageHubModel", name := "answer", desc := "(III)V" } : MethodName)) ∈ tb_T := tb_in (i := 1280) (by decide +kernel) (by decide +kernel)
theorem tw_1282 : (Cond.instanceMethod ({ cls := "MessageHubModel", name := "answer", desc := "(III)V" } : MethodName)) ∈ tb_T := tb_in (i := 1282) (by decide +kernel) (by decide +kernel)
theorem tw_1283 : (Cond.code ({ cls := "MessageHubModel", name := "answer", desc := "(III)V" } : MethodName) prog_14_method_37_code (4 : Nat) (Option.none : Option FieldType)) ∈ tb_T := tb_in (i := 1283) (by decide +kernel) (by decide +kernel)
theorem tw_1284 : (Cond.methodLink "MessageHubModel" (336 : Nat) ({ cls := "MessageHubModel", name := "published", desc := "(I)V" } : MethodName)) ∈ tb_T := tb_in (i := 1284) (by decide +kernel) (by decide +kernel)
theorem tw_1286 : (Cond.instanceMethod ({ cls := "MessageHubModel", name := "published", desc := "(I)V" } : MethodName)) ∈ tb_T := tb_in (i := 1286) (by decide +kernel) (by decide +kernel)
theorem tw_1287 : (Cond.code ({ cls := "MessageHubModel", name := "published", desc := "(I)V" } : MethodName) prog_14_method_39_code (5 : Nat) (Option.none : Option FieldType)) ∈ tb_T := tb_in (i := 1287) (by decide +kernel) (by decide +kernel)
theorem tw_1288 : (Cond.methodLink "MessageHubModel" (339 : Nat) ({ cls := "MessageHubModel", name := "brokerAnswered", desc := "(I)V" } : MethodName)) ∈ tb_T := tb_in (i := 1288) (by decide +kernel) (by decide +kernel)
theorem tw_1290 : (Cond.instanceMethod ({ cls := "MessageHubModel", name := "brokerAnswered", desc := "(I)V" } : MethodName)) ∈ tb_T := tb_in (i := 1290) (by decide +kernel) (by decide +kernel)
theorem tw_1291 : (Cond.code ({ cls := "MessageHubModel", name := "brokerAnswered", desc := "(I)V" } : MethodName) prog_14_method_42_code (4 : Nat) (Option.none : Option FieldType)) ∈ tb_T := tb_in (i := 1291) (by decide +kernel) (by decide +kernel)
theorem tw_1292 : (Cond.methodLink "MessageHubModel" (324 : Nat) ({ cls := "MessageHubModel", name := "awayPlace", desc := "(I)I" } : MethodName)) ∈ tb_T := tb_in (i := 1292) (by decide +kernel) (by decide +kernel)
theorem tw_1294 : (Cond.instanceMethod ({ cls := "MessageHubModel", name := "awayPlace", desc := "(I)I" } : MethodName)) ∈ tb_T := tb_in (i := 1294) (by decide +kernel) (by decide +kernel)
theorem tw_1295 : (Cond.code ({ cls := "MessageHubModel", name := "awayPlace", desc := "(I)I" } : MethodName) prog_14_method_40_code (3 : Nat) (Option.some FieldType.int)) ∈ tb_T := tb_in (i := 1295) (by decide +kernel) (by decide +kernel)
theorem tw_1296 : (Cond.methodLink "MessageHubModel" (327 : Nat) ({ cls := "MessageHubModel", name := "done", desc := "(II)V" } : MethodName)) ∈ tb_T := tb_in (i := 1296) (by decide +kernel) (by decide +kernel)
theorem tw_1298 : (Cond.instanceMethod ({ cls := "MessageHubModel", name := "done", desc := "(II)V" } : MethodName)) ∈ tb_T := tb_in (i := 1298) (by decide +kernel) (by decide +kernel)
theorem tw_1299 : (Cond.code ({ cls := "MessageHubModel", name := "done", desc := "(II)V" } : MethodName) prog_14_method_41_code (4 : Nat) (Option.none : Option FieldType)) ∈ tb_T := tb_in (i := 1299) (by decide +kernel) (by decide +kernel)
theorem tw_1300 : (Cond.methodLink "MessageHubModel" (342 : Nat) ({ cls := "MessageHubModel", name := "subscribed", desc := "(I)V" } : MethodName)) ∈ tb_T := tb_in (i := 1300) (by decide +kernel) (by decide +kernel)
theorem tw_1302 : (Cond.instanceMethod ({ cls := "MessageHubModel", name := "subscribed", desc := "(I)V" } : MethodName)) ∈ tb_T := tb_in (i := 1302) (by decide +kernel) (by decide +kernel)
theorem tw_1303 : (Cond.code ({ cls := "MessageHubModel", name := "subscribed", desc := "(I)V" } : MethodName) prog_14_method_44_code (6 : Nat) (Option.none : Option FieldType)) ∈ tb_T := tb_in (i := 1303) (by decide +kernel) (by decide +kernel)
theorem tw_1304 : (Cond.methodLink "MessageHubModel" (330 : Nat) ({ cls := "MessageHubModel", name := "subPlace", desc := "(I)I" } : MethodName)) ∈ tb_T := tb_in (i := 1304) (by decide +kernel) (by decide +kernel)
theorem tw_1306 : (Cond.instanceMethod ({ cls := "MessageHubModel", name := "subPlace", desc := "(I)I" } : MethodName)) ∈ tb_T := tb_in (i := 1306) (by decide +kernel) (by decide +kernel)
theorem tw_1307 : (Cond.code ({ cls := "MessageHubModel", name := "subPlace", desc := "(I)I" } : MethodName) prog_14_method_43_code (3 : Nat) (Option.some FieldType.int)) ∈ tb_T := tb_in (i := 1307) (by decide +kernel) (by decide +kernel)
theorem tw_1308 : (Cond.methodLink "MessageHubModel" (345 : Nat) ({ cls := "MessageHubModel", name := "unsubscribed", desc := "(I)V" } : MethodName)) ∈ tb_T := tb_in (i := 1308) (by decide +kernel) (by decide +kernel)
theorem tw_1310 : (Cond.instanceMethod ({ cls := "MessageHubModel", name := "unsubscribed", desc := "(I)V" } : MethodName)) ∈ tb_T := tb_in (i := 1310) (by decide +kernel) (by decide +kernel)
theorem tw_1311 : (Cond.code ({ cls := "MessageHubModel", name := "unsubscribed", desc := "(I)V" } : MethodName) prog_14_method_45_code (4 : Nat) (Option.none : Option FieldType)) ∈ tb_T := tb_in (i := 1311) (by decide +kernel) (by decide +kernel)
theorem tw_1312 : (Cond.methodLink "MessageHubModel" (370 : Nat) ({ cls := "MessageHubModel", name := "crash", desc := "()V" } : MethodName)) ∈ tb_T := tb_in (i := 1312) (by decide +kernel) (by decide +kernel)
theorem tw_1313 : (Cond.instanceMethod ({ cls := "MessageHubModel", name := "crash", desc := "()V" } : MethodName)) ∈ tb_T := tb_in (i := 1313) (by decide +kernel) (by decide +kernel)
theorem tw_1314 : (Cond.selects "MessageHubModel" ({ cls := "MessageHubModel", name := "crash", desc := "()V" } : MethodName) ({ cls := "MessageHubModel", name := "crash", desc := "()V" } : MethodName)) ∈ tb_T := tb_in (i := 1314) (by decide +kernel) (by decide +kernel)
theorem tw_1315 : (Cond.code ({ cls := "MessageHubModel", name := "crash", desc := "()V" } : MethodName) prog_14_method_58_code (2 : Nat) (Option.none : Option FieldType)) ∈ tb_T := tb_in (i := 1315) (by decide +kernel) (by decide +kernel)
theorem tw_1316 : (Cond.methodLink "MessageHubLaw" (62 : Nat) ({ cls := "MessageHubModel", name := "tick", desc := "()I" } : MethodName)) ∈ tb_T := tb_in (i := 1316) (by decide +kernel) (by decide +kernel)
theorem tw_1317 : (Cond.instanceMethod ({ cls := "MessageHubModel", name := "tick", desc := "()I" } : MethodName)) ∈ tb_T := tb_in (i := 1317) (by decide +kernel) (by decide +kernel)
theorem tw_1318 : (Cond.selects "MessageHubModel" ({ cls := "MessageHubModel", name := "tick", desc := "()I" } : MethodName) ({ cls := "MessageHubModel", name := "tick", desc := "()I" } : MethodName)) ∈ tb_T := tb_in (i := 1318) (by decide +kernel) (by decide +kernel)
theorem tw_1319 : (Cond.code ({ cls := "MessageHubModel", name := "tick", desc := "()I" } : MethodName) prog_14_method_57_code (3 : Nat) (Option.some FieldType.int)) ∈ tb_T := tb_in (i := 1319) (by decide +kernel) (by decide +kernel)
theorem tw_1320 : (Cond.methodLink "MessageHubLaw" (66 : Nat) ({ cls := "MessageHubModel", name := "crash", desc := "()V" } : MethodName)) ∈ tb_T := tb_in (i := 1320) (by decide +kernel) (by decide +kernel)
theorem tw_1321 : (Cond.methodLink "MessageHubLaw" (70 : Nat) ({ cls := "MessageHubModel", name := "fail", desc := "(I)Z" } : MethodName)) ∈ tb_T := tb_in (i := 1321) (by decide +kernel) (by decide +kernel)
theorem tw_1322 : (Cond.instanceMethod ({ cls := "MessageHubModel", name := "fail", desc := "(I)Z" } : MethodName)) ∈ tb_T := tb_in (i := 1322) (by decide +kernel) (by decide +kernel)
theorem tw_1323 : (Cond.selects "MessageHubModel" ({ cls := "MessageHubModel", name := "fail", desc := "(I)Z" } : MethodName) ({ cls := "MessageHubModel", name := "fail", desc := "(I)Z" } : MethodName)) ∈ tb_T := tb_in (i := 1323) (by decide +kernel) (by decide +kernel)
theorem tw_1324 : (Cond.code ({ cls := "MessageHubModel", name := "fail", desc := "(I)Z" } : MethodName) prog_14_method_59_code (2 : Nat) (Option.some FieldType.boolean)) ∈ tb_T := tb_in (i := 1324) (by decide +kernel) (by decide +kernel)
theorem tw_1325 : (Cond.methodLink "MessageHubLaw" (75 : Nat) ({ cls := "MessageHubModel", name := "state", desc := "(I)I" } : MethodName)) ∈ tb_T := tb_in (i := 1325) (by decide +kernel) (by decide +kernel)
theorem tw_1326 : (Cond.instanceMethod ({ cls := "MessageHubModel", name := "state", desc := "(I)I" } : MethodName)) ∈ tb_T := tb_in (i := 1326) (by decide +kernel) (by decide +kernel)
theorem tw_1327 : (Cond.selects "MessageHubModel" ({ cls := "MessageHubModel", name := "state", desc := "(I)I" } : MethodName) ({ cls := "MessageHubModel", name := "state", desc := "(I)I" } : MethodName)) ∈ tb_T := tb_in (i := 1327) (by decide +kernel) (by decide +kernel)
theorem tw_1328 : (Cond.code ({ cls := "MessageHubModel", name := "state", desc := "(I)I" } : MethodName) prog_14_method_60_code (2 : Nat) (Option.some FieldType.int)) ∈ tb_T := tb_in (i := 1328) (by decide +kernel) (by decide +kernel)
theorem tw_1329 : (Cond.methodLink "MessageHubLaw" (79 : Nat) ({ cls := "MessageHubModel", name := "session", desc := "(I)I" } : MethodName)) ∈ tb_T := tb_in (i := 1329) (by decide +kernel) (by decide +kernel)
theorem tw_1330 : (Cond.instanceMethod ({ cls := "MessageHubModel", name := "session", desc := "(I)I" } : MethodName)) ∈ tb_T := tb_in (i := 1330) (by decide +kernel) (by decide +kernel)
theorem tw_1331 : (Cond.selects "MessageHubModel" ({ cls := "MessageHubModel", name := "session", desc := "(I)I" } : MethodName) ({ cls := "MessageHubModel", name := "session", desc := "(I)I" } : MethodName)) ∈ tb_T := tb_in (i := 1331) (by decide +kernel) (by decide +kernel)
theorem tw_1332 : (Cond.code ({ cls := "MessageHubModel", name := "session", desc := "(I)I" } : MethodName) prog_14_method_62_code (2 : Nat) (Option.some FieldType.int)) ∈ tb_T := tb_in (i := 1332) (by decide +kernel) (by decide +kernel)
theorem tw_1333 : (Cond.methodLink "MessageHubModel" (373 : Nat) ({ cls := "MessageHubModel", name := "held", desc := "([ZI)I" } : MethodName)) ∈ tb_T := tb_in (i := 1333) (by decide +kernel) (by decide +kernel)
theorem tw_1334 : (Cond.static ({ cls := "MessageHubModel", name := "held", desc := "([ZI)I" } : MethodName)) ∈ tb_T := tb_in (i := 1334) (by decide +kernel) (by decide +kernel)
theorem tw_1335 : (Cond.code ({ cls := "MessageHubModel", name := "held", desc := "([ZI)I" } : MethodName) prog_14_method_61_code (4 : Nat) (Option.some FieldType.int)) ∈ tb_T := tb_in (i := 1335) (by decide +kernel) (by decide +kernel)
theorem tw_1336 : (Cond.methodLink "MessageHubLaw" (83 : Nat) ({ cls := "MessageHubModel", name := "line", desc := "(IZ)I" } : MethodName)) ∈ tb_T := tb_in (i := 1336) (by decide +kernel) (by decide +kernel)
theorem tw_1337 : (Cond.instanceMethod ({ cls := "MessageHubModel", name := "line", desc := "(IZ)I" } : MethodName)) ∈ tb_T := tb_in (i := 1337) (by decide +kernel) (by decide +kernel)
theorem tw_1338 : (Cond.selects "MessageHubModel" ({ cls := "MessageHubModel", name := "line", desc := "(IZ)I" } : MethodName) ({ cls := "MessageHubModel", name := "line", desc := "(IZ)I" } : MethodName)) ∈ tb_T := tb_in (i := 1338) (by decide +kernel) (by decide +kernel)
theorem tw_1339 : (Cond.code ({ cls := "MessageHubModel", name := "line", desc := "(IZ)I" } : MethodName) prog_14_method_63_code (3 : Nat) (Option.some FieldType.int)) ∈ tb_T := tb_in (i := 1339) (by decide +kernel) (by decide +kernel)
theorem tw_1340 : (Cond.methodLink "MessageHubLaw" (88 : Nat) ({ cls := "MessageHubModel", name := "packet", desc := "(IZI)J" } : MethodName)) ∈ tb_T := tb_in (i := 1340) (by decide +kernel) (by decide +kernel)
theorem tw_1341 : (Cond.instanceMethod ({ cls := "MessageHubModel", name := "packet", desc := "(IZI)J" } : MethodName)) ∈ tb_T := tb_in (i := 1341) (by decide +kernel) (by decide +kernel)
theorem tw_1342 : (Cond.selects "MessageHubModel" ({ cls := "MessageHubModel", name := "packet", desc := "(IZI)J" } : MethodName) ({ cls := "MessageHubModel", name := "packet", desc := "(IZI)J" } : MethodName)) ∈ tb_T := tb_in (i := 1342) (by decide +kernel) (by decide +kernel)
theorem tw_1343 : (Cond.code ({ cls := "MessageHubModel", name := "packet", desc := "(IZI)J" } : MethodName) prog_14_method_64_code (6 : Nat) (Option.some FieldType.long)) ∈ tb_T := tb_in (i := 1343) (by decide +kernel) (by decide +kernel)
theorem tw_1344 : (Cond.constantLong "MessageHubModel" (377 : Nat) (65536 : Int64)) ∈ tb_T := tb_in (i := 1344) (by decide +kernel) (by decide +kernel)
theorem tw_1345 : (Cond.methodLink "MessageHubLaw" (93 : Nat) ({ cls := "MessageHubModel", name := "inbox", desc := "(II)I" } : MethodName)) ∈ tb_T := tb_in (i := 1345) (by decide +kernel) (by decide +kernel)
theorem tw_1346 : (Cond.instanceMethod ({ cls := "MessageHubModel", name := "inbox", desc := "(II)I" } : MethodName)) ∈ tb_T := tb_in (i := 1346) (by decide +kernel) (by decide +kernel)
theorem tw_1347 : (Cond.selects "MessageHubModel" ({ cls := "MessageHubModel", name := "inbox", desc := "(II)I" } : MethodName) ({ cls := "MessageHubModel", name := "inbox", desc := "(II)I" } : MethodName)) ∈ tb_T := tb_in (i := 1347) (by decide +kernel) (by decide +kernel)
theorem tw_1348 : (Cond.code ({ cls := "MessageHubModel", name := "inbox", desc := "(II)I" } : MethodName) prog_14_method_65_code (3 : Nat) (Option.some FieldType.int)) ∈ tb_T := tb_in (i := 1348) (by decide +kernel) (by decide +kernel)
theorem tw_1349 : (Cond.methodLink "MessageHubLaw" (97 : Nat) ({ cls := "MessageHubModel", name := "store", desc := "(I)I" } : MethodName)) ∈ tb_T := tb_in (i := 1349) (by decide +kernel) (by decide +kernel)
theorem tw_1350 : (Cond.instanceMethod ({ cls := "MessageHubModel", name := "store", desc := "(I)I" } : MethodName)) ∈ tb_T := tb_in (i := 1350) (by decide +kernel) (by decide +kernel)
theorem tw_1351 : (Cond.selects "MessageHubModel" ({ cls := "MessageHubModel", name := "store", desc := "(I)I" } : MethodName) ({ cls := "MessageHubModel", name := "store", desc := "(I)I" } : MethodName)) ∈ tb_T := tb_in (i := 1351) (by decide +kernel) (by decide +kernel)
theorem tw_1352 : (Cond.code ({ cls := "MessageHubModel", name := "store", desc := "(I)I" } : MethodName) prog_14_method_66_code (2 : Nat) (Option.some FieldType.int)) ∈ tb_T := tb_in (i := 1352) (by decide +kernel) (by decide +kernel)
theorem tw_1353 : (Cond.methodLink "MessageHubLaw" (102 : Nat) ({ cls := "MessageHubModel", name := "retained", desc := "(J)I" } : MethodName)) ∈ tb_T := tb_in (i := 1353) (by decide +kernel) (by decide +kernel)
theorem tw_1354 : (Cond.instanceMethod ({ cls := "MessageHubModel", name := "retained", desc := "(J)I" } : MethodName)) ∈ tb_T := tb_in (i := 1354) (by decide +kernel) (by decide +kernel)
theorem tw_1355 : (Cond.selects "MessageHubModel" ({ cls := "MessageHubModel", name := "retained", desc := "(J)I" } : MethodName) ({ cls := "MessageHubModel", name := "retained", desc := "(J)I" } : MethodName)) ∈ tb_T := tb_in (i := 1355) (by decide +kernel) (by decide +kernel)
theorem tw_1356 : (Cond.code ({ cls := "MessageHubModel", name := "retained", desc := "(J)I" } : MethodName) prog_14_method_67_code (6 : Nat) (Option.some FieldType.int)) ∈ tb_T := tb_in (i := 1356) (by decide +kernel) (by decide +kernel)
theorem tw_1357 : (Cond.constantLong "MessageHubLaw" (13 : Nat) (4294967295 : Int64)) ∈ tb_T := tb_in (i := 1357) (by decide +kernel) (by decide +kernel)
theorem tw_1363 : (Cond.selects "[Ljava/lang/Object;" ({ cls := "java/lang/Object", name := "getClass", desc := "()Ljava/lang/Class;" } : MethodName) ({ cls := "java/lang/Object", name := "getClass", desc := "()Ljava/lang/Class;" } : MethodName)) ∈ tb_T := tb_in (i := 1363) (by decide +kernel) (by decide +kernel)
theorem tv_0 : Cond.selects "java/util/ArrayList" ⟨"java/util/ArrayList", "add", "(Ljava/lang/Object;[Ljava/lang/Object;I)V"⟩ ⟨"java/util/ArrayList", "add", "(Ljava/lang/Object;[Ljava/lang/Object;I)V"⟩ ∈ tb_T := tb_sel (i := 0) (by decide +kernel) (by decide +kernel)
theorem tv_1 : Cond.selects "java/util/ArrayList" ⟨"java/util/ArrayList", "grow", "()[Ljava/lang/Object;"⟩ ⟨"java/util/ArrayList", "grow", "()[Ljava/lang/Object;"⟩ ∈ tb_T := tb_sel (i := 1) (by decide +kernel) (by decide +kernel)
theorem tv_2 : Cond.selects "java/util/ArrayList" ⟨"java/util/ArrayList", "grow", "(I)[Ljava/lang/Object;"⟩ ⟨"java/util/ArrayList", "grow", "(I)[Ljava/lang/Object;"⟩ ∈ tb_T := tb_sel (i := 2) (by decide +kernel) (by decide +kernel)
theorem tv_3 : Cond.selects "MessageHub" ⟨"MessageHub", "canSend", "(I)Z"⟩ ⟨"MessageHub", "canSend", "(I)Z"⟩ ∈ tb_T := tb_sel (i := 3) (by decide +kernel) (by decide +kernel)
theorem tv_4 : Cond.selects "MessageHub" ⟨"MessageHub", "canKeep", "(I)Z"⟩ ⟨"MessageHub", "canKeep", "(I)Z"⟩ ∈ tb_T := tb_sel (i := 4) (by decide +kernel) (by decide +kernel)
theorem tv_5 : Cond.selects "MessageHub$Client" ⟨"MessageHub$Client", "pump", "()V"⟩ ⟨"MessageHub$Client", "pump", "()V"⟩ ∈ tb_T := tb_sel (i := 5) (by decide +kernel) (by decide +kernel)
theorem tv_6 : Cond.selects "java/util/ArrayList" ⟨"java/util/ArrayList", "fastRemove", "([Ljava/lang/Object;I)V"⟩ ⟨"java/util/ArrayList", "fastRemove", "([Ljava/lang/Object;I)V"⟩ ∈ tb_T := tb_sel (i := 6) (by decide +kernel) (by decide +kernel)
theorem tv_7 : Cond.selects "MessageHub$Client" ⟨"MessageHub$Client", "receiveConnack", "(LMessageHub$Packet;)V"⟩ ⟨"MessageHub$Client", "receiveConnack", "(LMessageHub$Packet;)V"⟩ ∈ tb_T := tb_sel (i := 7) (by decide +kernel) (by decide +kernel)
theorem tv_8 : Cond.selects "MessageHub$Client" ⟨"MessageHub$Client", "startOver", "()V"⟩ ⟨"MessageHub$Client", "startOver", "()V"⟩ ∈ tb_T := tb_sel (i := 8) (by decide +kernel) (by decide +kernel)
theorem tv_9 : Cond.selects "MessageHub$Client" ⟨"MessageHub$Client", "sendAgain", "()V"⟩ ⟨"MessageHub$Client", "sendAgain", "()V"⟩ ∈ tb_T := tb_sel (i := 9) (by decide +kernel) (by decide +kernel)
theorem tv_10 : Cond.selects "MessageHub$Client" ⟨"MessageHub$Client", "receivePublish", "(LMessageHub$Packet;)V"⟩ ⟨"MessageHub$Client", "receivePublish", "(LMessageHub$Packet;)V"⟩ ∈ tb_T := tb_sel (i := 10) (by decide +kernel) (by decide +kernel)
theorem tv_11 : Cond.selects "MessageHub$Client" ⟨"MessageHub$Client", "putIntoInbox", "(I)V"⟩ ⟨"MessageHub$Client", "putIntoInbox", "(I)V"⟩ ∈ tb_T := tb_sel (i := 11) (by decide +kernel) (by decide +kernel)
theorem tv_12 : Cond.selects "MessageHub$Client" ⟨"MessageHub$Client", "receivePubrel", "(LMessageHub$Packet;)V"⟩ ⟨"MessageHub$Client", "receivePubrel", "(LMessageHub$Packet;)V"⟩ ∈ tb_T := tb_sel (i := 12) (by decide +kernel) (by decide +kernel)
theorem tv_13 : Cond.selects "MessageHub$Client" ⟨"MessageHub$Client", "receivePubrec", "(LMessageHub$Packet;)V"⟩ ⟨"MessageHub$Client", "receivePubrec", "(LMessageHub$Packet;)V"⟩ ∈ tb_T := tb_sel (i := 13) (by decide +kernel) (by decide +kernel)
theorem tv_14 : Cond.selects "MessageHub$Broker" ⟨"MessageHub$Broker", "closeAbruptly", "(I)V"⟩ ⟨"MessageHub$Broker", "closeAbruptly", "(I)V"⟩ ∈ tb_T := tb_sel (i := 14) (by decide +kernel) (by decide +kernel)
theorem tv_15 : Cond.selects "MessageHub$Broker" ⟨"MessageHub$Broker", "closeNormally", "(I)V"⟩ ⟨"MessageHub$Broker", "closeNormally", "(I)V"⟩ ∈ tb_T := tb_sel (i := 15) (by decide +kernel) (by decide +kernel)
theorem tv_16 : Cond.selects "MessageHub$Broker" ⟨"MessageHub$Broker", "accept", "(ILMessageHub$Message;)Z"⟩ ⟨"MessageHub$Broker", "accept", "(ILMessageHub$Message;)Z"⟩ ∈ tb_T := tb_sel (i := 16) (by decide +kernel) (by decide +kernel)
theorem tv_17 : Cond.selects "MessageHub$Broker" ⟨"MessageHub$Broker", "spread", "(ILMessageHub$Message;Z)V"⟩ ⟨"MessageHub$Broker", "spread", "(ILMessageHub$Message;Z)V"⟩ ∈ tb_T := tb_sel (i := 17) (by decide +kernel) (by decide +kernel)
theorem tv_18 : Cond.selects "MessageHub$Broker" ⟨"MessageHub$Broker", "hasLineRoom", "(I)Z"⟩ ⟨"MessageHub$Broker", "hasLineRoom", "(I)Z"⟩ ∈ tb_T := tb_sel (i := 18) (by decide +kernel) (by decide +kernel)
theorem tv_19 : Cond.selects "MessageHub$Broker" ⟨"MessageHub$Broker", "send", "(ILMessageHub$Packet;)V"⟩ ⟨"MessageHub$Broker", "send", "(ILMessageHub$Packet;)V"⟩ ∈ tb_T := tb_sel (i := 19) (by decide +kernel) (by decide +kernel)
theorem tv_20 : Cond.selects "MessageHub$Broker" ⟨"MessageHub$Broker", "retain", "(LMessageHub$Message;)V"⟩ ⟨"MessageHub$Broker", "retain", "(LMessageHub$Message;)V"⟩ ∈ tb_T := tb_sel (i := 20) (by decide +kernel) (by decide +kernel)
theorem tv_21 : Cond.selects "MessageHub$Broker" ⟨"MessageHub$Broker", "findRetained", "(J)I"⟩ ⟨"MessageHub$Broker", "findRetained", "(J)I"⟩ ∈ tb_T := tb_sel (i := 21) (by decide +kernel) (by decide +kernel)
theorem tv_22 : Cond.selects "MessageHub$Broker" ⟨"MessageHub$Broker", "pump", "(I)V"⟩ ⟨"MessageHub$Broker", "pump", "(I)V"⟩ ∈ tb_T := tb_sel (i := 22) (by decide +kernel) (by decide +kernel)
theorem tv_23 : Cond.selects "MessageHub$Broker" ⟨"MessageHub$Broker", "receiveConnect", "(ILMessageHub$Packet;)V"⟩ ⟨"MessageHub$Broker", "receiveConnect", "(ILMessageHub$Packet;)V"⟩ ∈ tb_T := tb_sel (i := 23) (by decide +kernel) (by decide +kernel)
theorem tv_24 : Cond.selects "MessageHub$Broker" ⟨"MessageHub$Broker", "receivePublish", "(ILMessageHub$Packet;)V"⟩ ⟨"MessageHub$Broker", "receivePublish", "(ILMessageHub$Packet;)V"⟩ ∈ tb_T := tb_sel (i := 24) (by decide +kernel) (by decide +kernel)
theorem tv_25 : Cond.selects "MessageHub$Broker" ⟨"MessageHub$Broker", "receiveSubscribe", "(ILMessageHub$Packet;)V"⟩ ⟨"MessageHub$Broker", "receiveSubscribe", "(ILMessageHub$Packet;)V"⟩ ∈ tb_T := tb_sel (i := 25) (by decide +kernel) (by decide +kernel)
theorem tv_26 : Cond.selects "MessageHub$Broker" ⟨"MessageHub$Broker", "giveRetained", "(ILMessageHub$Message;)V"⟩ ⟨"MessageHub$Broker", "giveRetained", "(ILMessageHub$Message;)V"⟩ ∈ tb_T := tb_sel (i := 26) (by decide +kernel) (by decide +kernel)
theorem tv_27 : Cond.selects "MessageHub$Broker" ⟨"MessageHub$Broker", "receiveUnsubscribe", "(ILMessageHub$Packet;)V"⟩ ⟨"MessageHub$Broker", "receiveUnsubscribe", "(ILMessageHub$Packet;)V"⟩ ∈ tb_T := tb_sel (i := 27) (by decide +kernel) (by decide +kernel)
theorem tv_28 : Cond.selects "MessageHubModel" ⟨"MessageHubModel", "isFilter", "(J)Z"⟩ ⟨"MessageHubModel", "isFilter", "(J)Z"⟩ ∈ tb_T := tb_sel (i := 28) (by decide +kernel) (by decide +kernel)
theorem tv_29 : Cond.selects "MessageHubModel" ⟨"MessageHubModel", "isTopic", "(J)Z"⟩ ⟨"MessageHubModel", "isTopic", "(J)Z"⟩ ∈ tb_T := tb_sel (i := 29) (by decide +kernel) (by decide +kernel)
theorem tv_30 : Cond.selects "MessageHubModel" ⟨"MessageHubModel", "fits", "(JJ)Z"⟩ ⟨"MessageHubModel", "fits", "(JJ)Z"⟩ ∈ tb_T := tb_sel (i := 30) (by decide +kernel) (by decide +kernel)
theorem tv_31 : Cond.selects "MessageHubModel" ⟨"MessageHubModel", "send", "(IIII)I"⟩ ⟨"MessageHubModel", "send", "(IIII)I"⟩ ∈ tb_T := tb_sel (i := 31) (by decide +kernel) (by decide +kernel)
theorem tv_32 : Cond.selects "MessageHubModel" ⟨"MessageHubModel", "closeLink", "(I)V"⟩ ⟨"MessageHubModel", "closeLink", "(I)V"⟩ ∈ tb_T := tb_sel (i := 32) (by decide +kernel) (by decide +kernel)
theorem tv_33 : Cond.selects "MessageHubModel" ⟨"MessageHubModel", "speaks", "(I)Z"⟩ ⟨"MessageHubModel", "speaks", "(I)Z"⟩ ∈ tb_T := tb_sel (i := 33) (by decide +kernel) (by decide +kernel)
theorem tv_34 : Cond.selects "MessageHubModel" ⟨"MessageHubModel", "sendPublish", "(IJIII)V"⟩ ⟨"MessageHubModel", "sendPublish", "(IJIII)V"⟩ ∈ tb_T := tb_sel (i := 34) (by decide +kernel) (by decide +kernel)
theorem tv_35 : Cond.selects "MessageHubModel" ⟨"MessageHubModel", "marked", "(IZZ)V"⟩ ⟨"MessageHubModel", "marked", "(IZZ)V"⟩ ∈ tb_T := tb_sel (i := 35) (by decide +kernel) (by decide +kernel)
theorem tv_36 : Cond.selects "MessageHubModel" ⟨"MessageHubModel", "pumpClient", "(I)V"⟩ ⟨"MessageHubModel", "pumpClient", "(I)V"⟩ ∈ tb_T := tb_sel (i := 36) (by decide +kernel) (by decide +kernel)
theorem tv_37 : Cond.selects "MessageHubModel" ⟨"MessageHubModel", "underWay", "(I)I"⟩ ⟨"MessageHubModel", "underWay", "(I)I"⟩ ∈ tb_T := tb_sel (i := 37) (by decide +kernel) (by decide +kernel)
theorem tv_38 : Cond.selects "MessageHubModel" ⟨"MessageHubModel", "freeId", "(I)I"⟩ ⟨"MessageHubModel", "freeId", "(I)I"⟩ ∈ tb_T := tb_sel (i := 38) (by decide +kernel) (by decide +kernel)
theorem tv_39 : Cond.selects "MessageHubModel" ⟨"MessageHubModel", "sendStored", "(IIZ)V"⟩ ⟨"MessageHubModel", "sendStored", "(IIZ)V"⟩ ∈ tb_T := tb_sel (i := 39) (by decide +kernel) (by decide +kernel)
theorem tv_40 : Cond.selects "MessageHubModel" ⟨"MessageHubModel", "takeFirst", "(I)V"⟩ ⟨"MessageHubModel", "takeFirst", "(I)V"⟩ ∈ tb_T := tb_sel (i := 40) (by decide +kernel) (by decide +kernel)
theorem tv_41 : Cond.selects "MessageHubModel" ⟨"MessageHubModel", "clientGets", "(I)V"⟩ ⟨"MessageHubModel", "clientGets", "(I)V"⟩ ∈ tb_T := tb_sel (i := 41) (by decide +kernel) (by decide +kernel)
theorem tv_42 : Cond.selects "MessageHubModel" ⟨"MessageHubModel", "greeted", "(I)V"⟩ ⟨"MessageHubModel", "greeted", "(I)V"⟩ ∈ tb_T := tb_sel (i := 42) (by decide +kernel) (by decide +kernel)
theorem tv_43 : Cond.selects "MessageHubModel" ⟨"MessageHubModel", "forget", "(II)V"⟩ ⟨"MessageHubModel", "forget", "(II)V"⟩ ∈ tb_T := tb_sel (i := 43) (by decide +kernel) (by decide +kernel)
theorem tv_44 : Cond.selects "MessageHubModel" ⟨"MessageHubModel", "inboxed", "(I)V"⟩ ⟨"MessageHubModel", "inboxed", "(I)V"⟩ ∈ tb_T := tb_sel (i := 44) (by decide +kernel) (by decide +kernel)
theorem tv_45 : Cond.selects "MessageHubModel" ⟨"MessageHubModel", "clientAnswered", "(I)V"⟩ ⟨"MessageHubModel", "clientAnswered", "(I)V"⟩ ∈ tb_T := tb_sel (i := 45) (by decide +kernel) (by decide +kernel)
theorem tv_46 : Cond.selects "MessageHubModel" ⟨"MessageHubModel", "storePlace", "(I)I"⟩ ⟨"MessageHubModel", "storePlace", "(I)I"⟩ ∈ tb_T := tb_sel (i := 46) (by decide +kernel) (by decide +kernel)
theorem tv_47 : Cond.selects "MessageHubModel" ⟨"MessageHubModel", "brokerGets", "(I)V"⟩ ⟨"MessageHubModel", "brokerGets", "(I)V"⟩ ∈ tb_T := tb_sel (i := 47) (by decide +kernel) (by decide +kernel)
theorem tv_48 : Cond.selects "MessageHubModel" ⟨"MessageHubModel", "opened", "(I)V"⟩ ⟨"MessageHubModel", "opened", "(I)V"⟩ ∈ tb_T := tb_sel (i := 48) (by decide +kernel) (by decide +kernel)
theorem tv_49 : Cond.selects "MessageHubModel" ⟨"MessageHubModel", "closeConnection", "(IZ)V"⟩ ⟨"MessageHubModel", "closeConnection", "(IZ)V"⟩ ∈ tb_T := tb_sel (i := 49) (by decide +kernel) (by decide +kernel)
theorem tv_50 : Cond.selects "MessageHubModel" ⟨"MessageHubModel", "endSession", "(I)V"⟩ ⟨"MessageHubModel", "endSession", "(I)V"⟩ ∈ tb_T := tb_sel (i := 50) (by decide +kernel) (by decide +kernel)
theorem tv_51 : Cond.selects "MessageHubModel" ⟨"MessageHubModel", "accept", "(IJIIZ)Z"⟩ ⟨"MessageHubModel", "accept", "(IJIIZ)Z"⟩ ∈ tb_T := tb_sel (i := 51) (by decide +kernel) (by decide +kernel)
theorem tv_52 : Cond.selects "MessageHubModel" ⟨"MessageHubModel", "wants", "(IIIJ)Z"⟩ ⟨"MessageHubModel", "wants", "(IIIJ)Z"⟩ ∈ tb_T := tb_sel (i := 52) (by decide +kernel) (by decide +kernel)
theorem tv_53 : Cond.selects "MessageHubModel" ⟨"MessageHubModel", "copy", "(IJIIZ)V"⟩ ⟨"MessageHubModel", "copy", "(IJIIZ)V"⟩ ∈ tb_T := tb_sel (i := 53) (by decide +kernel) (by decide +kernel)
theorem tv_54 : Cond.selects "MessageHubModel" ⟨"MessageHubModel", "join", "(IJIIZ)V"⟩ ⟨"MessageHubModel", "join", "(IJIIZ)V"⟩ ∈ tb_T := tb_sel (i := 54) (by decide +kernel) (by decide +kernel)
theorem tv_55 : Cond.selects "MessageHubModel" ⟨"MessageHubModel", "retain", "(JII)V"⟩ ⟨"MessageHubModel", "retain", "(JII)V"⟩ ∈ tb_T := tb_sel (i := 55) (by decide +kernel) (by decide +kernel)
theorem tv_56 : Cond.selects "MessageHubModel" ⟨"MessageHubModel", "keptPlace", "(J)I"⟩ ⟨"MessageHubModel", "keptPlace", "(J)I"⟩ ∈ tb_T := tb_sel (i := 56) (by decide +kernel) (by decide +kernel)
theorem tv_57 : Cond.selects "MessageHubModel" ⟨"MessageHubModel", "pumpSession", "(I)V"⟩ ⟨"MessageHubModel", "pumpSession", "(I)V"⟩ ∈ tb_T := tb_sel (i := 57) (by decide +kernel) (by decide +kernel)
theorem tv_58 : Cond.selects "MessageHubModel" ⟨"MessageHubModel", "sendHere", "(IIZ)V"⟩ ⟨"MessageHubModel", "sendHere", "(IIZ)V"⟩ ∈ tb_T := tb_sel (i := 58) (by decide +kernel) (by decide +kernel)
theorem tv_59 : Cond.selects "MessageHubModel" ⟨"MessageHubModel", "answer", "(III)V"⟩ ⟨"MessageHubModel", "answer", "(III)V"⟩ ∈ tb_T := tb_sel (i := 59) (by decide +kernel) (by decide +kernel)
theorem tv_60 : Cond.selects "MessageHubModel" ⟨"MessageHubModel", "published", "(I)V"⟩ ⟨"MessageHubModel", "published", "(I)V"⟩ ∈ tb_T := tb_sel (i := 60) (by decide +kernel) (by decide +kernel)
theorem tv_61 : Cond.selects "MessageHubModel" ⟨"MessageHubModel", "brokerAnswered", "(I)V"⟩ ⟨"MessageHubModel", "brokerAnswered", "(I)V"⟩ ∈ tb_T := tb_sel (i := 61) (by decide +kernel) (by decide +kernel)
theorem tv_62 : Cond.selects "MessageHubModel" ⟨"MessageHubModel", "awayPlace", "(I)I"⟩ ⟨"MessageHubModel", "awayPlace", "(I)I"⟩ ∈ tb_T := tb_sel (i := 62) (by decide +kernel) (by decide +kernel)
theorem tv_63 : Cond.selects "MessageHubModel" ⟨"MessageHubModel", "done", "(II)V"⟩ ⟨"MessageHubModel", "done", "(II)V"⟩ ∈ tb_T := tb_sel (i := 63) (by decide +kernel) (by decide +kernel)
theorem tv_64 : Cond.selects "MessageHubModel" ⟨"MessageHubModel", "subscribed", "(I)V"⟩ ⟨"MessageHubModel", "subscribed", "(I)V"⟩ ∈ tb_T := tb_sel (i := 64) (by decide +kernel) (by decide +kernel)
theorem tv_65 : Cond.selects "MessageHubModel" ⟨"MessageHubModel", "subPlace", "(I)I"⟩ ⟨"MessageHubModel", "subPlace", "(I)I"⟩ ∈ tb_T := tb_sel (i := 65) (by decide +kernel) (by decide +kernel)
theorem tv_66 : Cond.selects "MessageHubModel" ⟨"MessageHubModel", "unsubscribed", "(I)V"⟩ ⟨"MessageHubModel", "unsubscribed", "(I)V"⟩ ∈ tb_T := tb_sel (i := 66) (by decide +kernel) (by decide +kernel)
end
section
theorem ev_AllG.app {P : Nat → ev_Op → Prop} : ∀ {A B : ev_C}, ev_AllG P A → ev_AllG P B → ev_AllG P (A ++ B) := by
  intro A
  induction A with
  | nil => intro B _ h; exact h
  | cons x r ih => intro B h1 h2; exact ⟨h1.1, ih h1.2 h2⟩
end
section
/-! Math.min and Math.max of ints. -/
section MMO
variable {l : Launch} {cl : List vw_C} {tyL : List FieldType} {G : Nat → (State → Prop) → Prop} {cc : ByteArray} {nL : Nat} {ret : Option FieldType} {nm own : String} {Ts : List Cond} {d wd pc : Nat}
theorem ev_pureC {f : ev_Fn} (hp : ∀ (L : ev_L) (stk : List Value) (h : ev_H) (x : ev_S ⊕ ev_O), f L stk h = some x → ∃ (nx : Nat) (stk' : List Value), x = .inl (nx, L, stk', h) ∧
      ∀ (p : Program) (e : Env) (R : Room) (s : State) (m : MethodId) (args : Array Value) (below : List Frame) (meth : Method) (c : Code) (D : va_G) (cA : Nat → ClassId) (lo : Nat) (O : State → Prop), ev_ctx p l e R s m args below meth c cc nL ret nm own Ts D cl cA tyL lo O G d wd →
        ∀ (H : Heap) (locs : List Loc) (cells slots : Nat) (ls : Array Slot) (Q : State → Prop), ev_lv ls nL L → cells ≤ R.cells → slots ≤ R.slots → W p l e R s m args below meth c H locs cells slots Q (F0 m nx ls stk') → W p l e R s m args below meth c H locs cells slots Q (F0 m pc ls stk)) :
    ev_Good l cl tyL G cc nL ret nm own Ts d wd pc (ev_fn f) := by
  refine ⟨fun L stk h => ⟨fun st' e1 => ?_, fun o e1 => ?_⟩, fun p e R s m args below meth c D cA lo O b0 oE X => ⟨fun L stk h g1 g2 Q st' e1 r1 r2 k => ?_, fun L stk h g1 g2 e1 => ?_⟩⟩
  · obtain ⟨nx, stk', hx, -⟩ := hp L stk h _ e1
    cases hx
    exact ⟨Nat.le_refl _, Nat.le_refl _⟩
  · obtain ⟨nx, stk', hx, -⟩ := hp L stk h _ e1
    cases hx
  · obtain ⟨nx, stk', hx, hw⟩ := hp L stk h _ e1
    cases hx
    intro H locs ls a1 a2 a3 a4 a5 a6
    exact hw p e R s m args below meth c D cA lo O X H locs _ _ ls _ a6 r1 r2 (k H locs ls a1 a2 a3 a4 a5 a6)
  · obtain ⟨nx, stk', hx, -⟩ := hp L stk h _ e1
    cases hx
def ev_mmax (nx : Nat) : ev_Fn := fun L stk h => match stk with
  | .int y :: .int x :: r => if (r.map fun v => v.category).sum ≤ 8 then some (.inl (nx, L, .int (if x < y then y else x) :: r, h)) else none
  | _ => none
theorem ok_mmax {ix : Nat} (hd0 : 1 ≤ d) (hw0 : 21 ≤ wd) (w1 : Cond.methodLink own ix Lib.Math.max.name ∈ Ts) (w2 : Cond.static Lib.Math.max.name ∈ Ts) (w3 : Cond.initialized "java/lang/Math" ∈ Ts) (w4 : Cond.code Lib.Math.max.name Lib.Math.max.code 2 (some .int) ∈ Ts) (hd : decode cc pc = .ok (.invokestatic ix, 3)) : ev_Good l cl tyL G cc nL ret nm own Ts d wd pc (ev_fn (ev_mmax (pc + 3))) := by
  refine ev_pureC fun L stk h x hx => ?_
  unfold ev_mmax at hx
  split at hx
  · rename_i y x0 r
    split at hx
    · rename_i hg
      cases hx
      exact ⟨_, _, rfl, fun p e R s m args below meth c D cA lo O X H locs cells slots ls Q hl hc hs k => va_mmax X.1.1 X.1.2.1 (by rw [X.1.2.2.1, hl.1]) X.1.2.2.2.1 (X.1.2.2.2.2.1 _ w1) (X.1.2.2.2.2.1 _ w2) (X.1.2.2.2.2.1 _ w3) (X.1.2.2.2.2.1 _ w4) (Nat.le_trans hd0 X.2.2.2.2.2.1) (Nat.le_trans (by omega) X.2.2.2.2.2.2) hc hs hd k⟩
    · cases hx
  · cases hx
def ev_mmin (nx : Nat) : ev_Fn := fun L stk h => match stk with
  | .int y :: .int x :: r => if (r.map fun v => v.category).sum ≤ 8 then some (.inl (nx, L, .int (if y < x then y else x) :: r, h)) else none
  | _ => none
theorem ok_mmin {ix : Nat} (hd0 : 1 ≤ d) (hw0 : 21 ≤ wd) (w1 : Cond.methodLink own ix Lib.Math.min.name ∈ Ts) (w2 : Cond.static Lib.Math.min.name ∈ Ts) (w3 : Cond.initialized "java/lang/Math" ∈ Ts) (w4 : Cond.code Lib.Math.min.name Lib.Math.min.code 2 (some .int) ∈ Ts) (hd : decode cc pc = .ok (.invokestatic ix, 3)) : ev_Good l cl tyL G cc nL ret nm own Ts d wd pc (ev_fn (ev_mmin (pc + 3))) := by
  refine ev_pureC fun L stk h x hx => ?_
  unfold ev_mmin at hx
  split at hx
  · rename_i y x0 r
    split at hx
    · rename_i hg
      cases hx
      exact ⟨_, _, rfl, fun p e R s m args below meth c D cA lo O X H locs cells slots ls Q hl hc hs k => va_mmin X.1.1 X.1.2.1 (by rw [X.1.2.2.1, hl.1]) X.1.2.2.2.1 (X.1.2.2.2.2.1 _ w1) (X.1.2.2.2.2.1 _ w2) (X.1.2.2.2.2.1 _ w3) (X.1.2.2.2.2.1 _ w4) (Nat.le_trans hd0 X.2.2.2.2.2.1) (Nat.le_trans (by omega) X.2.2.2.2.2.2) hc hs hd k⟩
    · cases hx
  · cases hx
end MMO
end
