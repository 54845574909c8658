/-! The world of a picture, the judgement, the run, the contract. -/
def ev_cv (cA : Nat → ClassId) (x : ev_E) : va_E := match x with
  | .inl a => .inl (cA a.1, a.2)
  | .inr o => .inr o
def ev_wd (D : va_G) (cl : List vw_C) (cA : Nat → ClassId) (lo : Nat) (h : ev_H) (H : Heap) : Prop := H.size = h.1 ∧ ∀ (a : Nat) (x : ev_E), h.2.2 a = some x → lo ≤ a ∧ va_at D cl (a, ev_cv cA x) H
def ev_tyA (cA : Nat → ClassId) : Nat → List FieldType → List (ClassId × FieldType)
  | _, [] => []
  | i, t :: r => (cA i, t) :: ev_tyA cA (i + 1) r
theorem ev_tyA_get (cA : Nat → ClassId) : ∀ (l : List FieldType) (i t : Nat) (ty : FieldType), l[t]? = some ty → (ev_tyA cA i l)[t]? = some (cA (i + t), ty) := by
  intro l
  induction l with
  | nil => intro i t ty h; simp at h
  | cons x r ih =>
    intro i t ty h
    cases t with
    | zero => simp at h; simp [ev_tyA, h]
    | succ t =>
      simp only [List.getElem?_cons_succ] at h
      simp only [ev_tyA, List.getElem?_cons_succ]
      rw [ih (i + 1) t ty h, show i + 1 + t = i + (t + 1) by omega]
def ev_ty (cA : Nat → ClassId) (tyL : List FieldType) : List (ClassId × FieldType) := ev_tyA cA 0 tyL
theorem ev_ty_get {cA : Nat → ClassId} {tyL : List FieldType} {t : Nat} {ty : FieldType} (h : tyL[t]? = some ty) : (ev_ty cA tyL)[t]? = some (cA t, ty) := by
  have := ev_tyA_get cA tyL 0 t ty h
  rwa [Nat.zero_add] at this
-- what lies below lo, and words of the tables that aren't kept by themselves: it stays
def ev_St (lo : Nat) (O : State → Prop) : Prop := ∀ U V : State, U.WarmedH V.vm ∨ U.vm = V.vm → U.heap.size ≤ V.heap.size → (∀ q, q < lo → V.heap[q]? = U.heap[q]?) → O U → O V
def ev_U (D : va_G) (cl : List vw_C) (cA : Nat → ClassId) (tyL : List FieldType) (lo : Nat) (O : State → Prop) (h : ev_H) (U : State) : Prop := ev_wd D cl cA lo h U.heap ∧ va_K D cl (ev_ty cA tyL) U ∧ O U ∧ lo ≤ U.heap.size
def ev_Qc (D : va_G) (cl : List vw_C) (cA : Nat → ClassId) (tyL : List FieldType) (lo : Nat) (O : State → Prop) (r : Option Value) (h' : ev_H) : Array Value → State → Outcome → State → Prop := fun _ st oc t => oc = .returned r ∧ ev_U D cl cA tyL lo O h' t ∧ st.heap.size ≤ t.heap.size ∧ ∀ q, q < lo → t.heap[q]? = st.heap[q]?
def ev_rm (d wd mc ms : Nat) : Room := { frames := d, cells := mc, slots := ms, locals := wd }
-- a method does what F does: G is what every method may ask of what lies below
def ev_Met (l : Launch) (cl : List vw_C) (tyL : List FieldType) (G : Nat → (State → Prop) → Prop) (y : MethodName) (ws : List Cond) (d wd : Nat) (F : ev_F) : Prop :=
  ∀ (as : List Value) (h : ev_H) (r : Option Value) (h' : ev_H), F as h (r, h') → h.1 ≤ h'.1 ∧ h.2.1 ≤ h'.2.1 ∧
    ∀ (D : va_G) (cA : Nat → ClassId) (lo : Nat) (O : State → Prop), ev_St lo O → G lo O →
      Met l y ws (ev_rm d wd (h'.1 - h.1) (h'.2.1 - h.2.1)) (va_Pc as (ev_U D cl cA tyL lo O h)) (ev_Qc D cl cA tyL lo O r h') (h'.1 - h.1) (h'.2.1 - h.2.1) (fun q => lo ≤ q)
theorem ev_wd.put {D : va_G} {cl : List vw_C} {cA : Nat → ClassId} {lo : Nat} {h : ev_H} {H H1 : Heap} {a : Nat} {x : ev_E} (hw : ev_wd D cl cA lo h H) (ha : lo ≤ a) (z : H1.size = H.size) (oq : ∀ q : Nat, q ≠ a → H1[q]? = H[q]?) (hx : va_at D cl (a, ev_cv cA x) H1) : ev_wd D cl cA lo (ev_put h a x) H1 := by
  refine ⟨z.trans hw.1, fun b y hb => ?_⟩
  simp only [ev_put, ev_upd] at hb
  split at hb
  · rename_i e
    subst e
    cases hb
    exact ⟨ha, hx⟩
  · rename_i e
    obtain ⟨h1, h2⟩ := hw.2 b y hb
    exact ⟨h1, h2.kept (oq b e)⟩
theorem ev_wd.new {D : va_G} {cl : List vw_C} {cA : Nat → ClassId} {lo : Nat} {h : ev_H} {H H1 : Heap} {k : Nat} {x : ev_E} (hw : ev_wd D cl cA lo h H) (ha : lo ≤ H.size) (z : H1.size = H.size + 1) (oq : ∀ q : Nat, q < H.size → H1[q]? = H[q]?) (hx : va_at D cl (H.size, ev_cv cA x) H1) : ev_wd D cl cA lo (ev_new h k x) H1 := by
  refine ⟨by rw [z, hw.1]; rfl, fun b y hb => ?_⟩
  simp only [ev_new, ev_upd] at hb
  split at hb
  · rename_i e
    rw [← hw.1] at e
    subst e
    cases hb
    exact ⟨ha, hx⟩
  · obtain ⟨h1, h2⟩ := hw.2 b y hb
    exact ⟨h1, h2.kept (oq b h2.lt)⟩
section EVJ
variable (p : Program) (l : Launch) (e : Env) (R : Room) (s : State) (m : MethodId) (args : Array Value) (below : List Frame) (meth : Method) (c : Code) (D : va_G) (cl : List vw_C) (cA : Nat → ClassId) (lo : Nat) (b0 : Nat × Nat) (nL : Nat) (Q : State → Prop)
def ev_J (st : ev_S) : Prop := ∀ (H : Heap) (locs : List Loc) (ls : Array Slot), ev_wd D cl cA lo st.2.2.2 H → (∀ q ∈ locs, lo ≤ q.base) → (∀ q, q < lo → H[q]? = s.heap[q]?) → s.heap.size ≤ H.size → lo ≤ s.heap.size → ev_lv ls nL st.2.1 →
  W p l e R s m args below meth c H locs (st.2.2.2.1 - b0.1) (st.2.2.2.2.1 - b0.2) Q (F0 m st.1 ls st.2.2.1)
end EVJ
-- a step never takes room back
def ev_MO (op : ev_Op) : Prop := ∀ (L : ev_L) (stk : List Value) (h : ev_H), (∀ st' : ev_S, op L stk h (.inl st') → h.1 ≤ st'.2.2.2.1 ∧ h.2.1 ≤ st'.2.2.2.2.1) ∧ (∀ o : ev_O, op L stk h (.inr o) → h.1 ≤ o.2.1 ∧ h.2.1 ≤ o.2.2.1)
theorem ev_run_mono {C : ev_C} (hC : ∀ pc op, ev_find C pc = some op → ev_MO op) : ∀ (n : Nat) (st : ev_S) (o : ev_O), ev_run C n st o → st.2.2.2.1 ≤ o.2.1 ∧ st.2.2.2.2.1 ≤ o.2.2.1 := by
  intro n
  induction n with
  | zero => intro st o h; exact h.elim
  | succ n ih =>
    intro st o h
    obtain ⟨op, hop, h⟩ := h
    obtain ⟨m1, m2⟩ := hC _ _ hop st.2.1 st.2.2.1 st.2.2.2
    rcases h with ⟨st', e1, h⟩ | e1
    · obtain ⟨a1, a2⟩ := m1 st' e1
      obtain ⟨c1, c2⟩ := ih st' o h
      exact ⟨Nat.le_trans a1 c1, Nat.le_trans a2 c2⟩
    · exact m2 _ e1
-- what a walk knows of the method it stands in
def ev_X (p : Program) (s : State) (m : MethodId) (args : Array Value) (meth : Method) (c : Code) (cc : ByteArray) (nL : Nat) (ret : Option FieldType) (nm own : String) (Ts : List Cond) : Prop := p.tables.exec = Jvm.exec ∧ c.code = cc ∧ c.maxLocals = nL ∧ s.vm.findClass own = some m.cls ∧ (∀ w ∈ Ts, w.before args s = true) ∧ meth.sig.returnType = ret ∧ meth.locks = false ∧ meth.name = nm
abbrev ev_Q (below : List Frame) (args : Array Value) (s : State) (D : va_G) (cl : List vw_C) (cA : Nat → ClassId) (tyL : List FieldType) (lo : Nat) (O : State → Prop) (b0 : Nat × Nat) (o : ev_O) : State → Prop := MQ below (ev_Qc D cl cA tyL lo O o.1 o.2) args s (o.2.1 - b0.1) (o.2.2.1 - b0.2) (fun q => lo ≤ q)
-- what a step's proof may use
def ev_ctx (p : Program) (l : Launch) (e : Env) (R : Room) (s : State) (m : MethodId) (args : Array Value) (below : List Frame) (meth : Method) (c : Code) (cc : ByteArray) (nL : Nat) (ret : Option FieldType) (nm own : String) (Ts : List Cond) (D : va_G) (cl : List vw_C) (cA : Nat → ClassId) (tyL : List FieldType) (lo : Nat) (O : State → Prop) (G : Nat → (State → Prop) → Prop) (d wd : Nat) : Prop :=
  ev_X p s m args meth c cc nL ret nm own Ts ∧ va_K D cl (ev_ty cA tyL) s ∧ O s ∧ ev_St lo O ∧ G lo O ∧ d ≤ R.frames ∧ wd ≤ R.locals
-- a step is sound: with the next state sound, this one is (whatever is awaited); at an end, the end is the one that is awaited
def ev_OKs (p : Program) (l : Launch) (e : Env) (R : Room) (s : State) (m : MethodId) (args : Array Value) (below : List Frame) (meth : Method) (c : Code) (D : va_G) (cl : List vw_C) (cA : Nat → ClassId) (lo : Nat) (b0 : Nat × Nat) (nL : Nat) (pc : Nat) (op : ev_Op) : Prop := ∀ (L : ev_L) (stk : List Value) (h : ev_H), b0.1 ≤ h.1 → b0.2 ≤ h.2.1 →
  ∀ (Q : State → Prop) (st' : ev_S), op L stk h (.inl st') → st'.2.2.2.1 - b0.1 ≤ R.cells → st'.2.2.2.2.1 - b0.2 ≤ R.slots → ev_J p l e R s m args below meth c D cl cA lo b0 nL Q st' → ev_J p l e R s m args below meth c D cl cA lo b0 nL Q (pc, L, stk, h)
def ev_OKe (p : Program) (l : Launch) (e : Env) (R : Room) (s : State) (m : MethodId) (args : Array Value) (below : List Frame) (meth : Method) (c : Code) (D : va_G) (cl : List vw_C) (cA : Nat → ClassId) (lo : Nat) (b0 : Nat × Nat) (nL : Nat) (Q : State → Prop) (oE : ev_O) (pc : Nat) (op : ev_Op) : Prop := ∀ (L : ev_L) (stk : List Value) (h : ev_H), b0.1 ≤ h.1 → b0.2 ≤ h.2.1 →
  op L stk h (.inr oE) → ev_J p l e R s m args below meth c D cl cA lo b0 nL Q (pc, L, stk, h)
def ev_Good (l : Launch) (cl : List vw_C) (tyL : List FieldType) (G : Nat → (State → Prop) → Prop) (cc : ByteArray) (nL : Nat) (ret : Option FieldType) (nm own : String) (Ts : List Cond) (d wd pc : Nat) (op : ev_Op) : Prop := ev_MO op ∧
  ∀ (p : Program) (e : Env) (R : Room) (s : State) (m : MethodId) (args : Array Value) (below : List Frame) (meth : Method) (c : Code) (D : va_G) (cA : Nat → ClassId) (lo : Nat) (O : State → Prop) (b0 : Nat × Nat) (oE : ev_O),
    ev_ctx p l e R s m args below meth c cc nL ret nm own Ts D cl cA tyL lo O G d wd → ev_OKs p l e R s m args below meth c D cl cA lo b0 nL pc op ∧ ev_OKe p l e R s m args below meth c D cl cA lo b0 nL (ev_Q below args s D cl cA tyL lo O b0 oE) oE pc op
theorem ev_run_ok {p : Program} {l : Launch} {e : Env} {R : Room} {s : State} {m : MethodId} {args : Array Value} {below : List Frame} {meth : Method} {c : Code} {D : va_G} {cl : List vw_C} {cA : Nat → ClassId} {lo : Nat} {b0 : Nat × Nat} {nL : Nat} {Q : State → Prop} {C : ev_C} {oE : ev_O}
    (hM : ∀ pc op, ev_find C pc = some op → ev_MO op) (hC : ∀ pc op, ev_find C pc = some op → ev_OKs p l e R s m args below meth c D cl cA lo b0 nL pc op) (hE : ∀ pc op, ev_find C pc = some op → ev_OKe p l e R s m args below meth c D cl cA lo b0 nL Q oE pc op) (h1 : oE.2.1 - b0.1 ≤ R.cells) (h2 : oE.2.2.1 - b0.2 ≤ R.slots) :
    ∀ (n : Nat) (st : ev_S), b0.1 ≤ st.2.2.2.1 → b0.2 ≤ st.2.2.2.2.1 → ev_run C n st oE → ev_J p l e R s m args below meth c D cl cA lo b0 nL Q st := by
  intro n
  induction n with
  | zero => intro st _ _ h; exact h.elim
  | succ n ih =>
    intro st g1 g2 h
    obtain ⟨op, hop, h⟩ := h
    obtain ⟨m1, m2⟩ := hM _ _ hop st.2.1 st.2.2.1 st.2.2.2
    rcases h with ⟨st', e1, h⟩ | e1
    · obtain ⟨a1, a2⟩ := m1 st' e1
      obtain ⟨c1, c2⟩ := ev_run_mono hM n st' oE h
      exact hC _ _ hop st.2.1 st.2.2.1 st.2.2.2 g1 g2 Q st' e1 (by omega) (by omega) (ih st' (by omega) (by omega) h)
    · exact hE _ _ hop st.2.1 st.2.2.1 st.2.2.2 g1 g2 e1
def ev_AllG (P : Nat → ev_Op → Prop) : ev_C → Prop
  | [] => True
  | (q, o) :: r => P q o ∧ ev_AllG P r
theorem ev_AllG.get {P : Nat → ev_Op → Prop} : ∀ {C : ev_C}, ev_AllG P C → ∀ pc op, ev_find C pc = some op → P pc op := by
  intro C
  induction C with
  | nil => intro _ pc op h; simp [ev_find] at h
  | cons x r ih =>
    intro hA pc op h
    obtain ⟨q, o⟩ := x
    simp only [ev_find] at h
    split at h
    · rename_i e
      cases h
      have e' := Nat.eq_of_beq_eq_true e
      subst e'
      exact hA.1
    · exact ih hA.2 pc op h
theorem ev_sound {l : Launch} {cl : List vw_C} {tyL : List FieldType} {G : Nat → (State → Prop) → Prop} {cc : ByteArray} {nL : Nat} {ret : Option FieldType} {y : MethodName} {Ts : List Cond} {d wd : Nat} {C : ev_C} (hy : plainName y.cls = true)
    (hA : ev_AllG (ev_Good l cl tyL G cc nL ret y.name y.cls Ts d wd) C) : ev_Met l cl tyL G y (Cond.code y cc nL ret :: Ts) d wd (ev_met C nL) := by
  intro as h r h' hF
  obtain ⟨hlen, n, hF⟩ := hF
  have hM : ∀ pc op, ev_find C pc = some op → ev_MO op := fun pc op hf => (hA.get pc op hf).1
  obtain ⟨g1, g2⟩ := ev_run_mono hM _ _ _ hF
  refine ⟨g1, g2, fun D cA lo O hSt hG => ?_⟩
  refine Met.ofW (cc := cc) (maxL := nL) (ret := ret) hy rfl ?_
  intro p e s m args below meth c s₁ B hml hv
  obtain ⟨rfl, hwd, hK, hO, hlo⟩ := hv
  have hts0 := atoms_spec (ws := Cond.code y cc nL ret :: Ts) B.pre
  have hts : ∀ w ∈ Ts, w.before as.toArray s = true := fun w hw => hts0 w (List.mem_cons_of_mem _ hw)
  have hown : s.vm.findClass y.cls = some m.cls := findClass_of_methodNamed B.named
  have hnm : meth.name = y.name := (name_of_methodNamed B.named B.method).1
  have hctx : ev_ctx p l e (ev_rm d wd (h'.1 - h.1) (h'.2.1 - h.2.1)) s m as.toArray below meth c cc nL ret y.name y.cls Ts D cl cA tyL lo O G d wd := ⟨⟨B.exec, B.bytes, hml, hown, hts, B.returns, B.notSynchronized, hnm⟩, hK, hO, hSt, hG, Nat.le_refl _, Nat.le_refl _⟩
  have hall := fun pc op hf => (hA.get pc op hf).2 p e (ev_rm d wd (h'.1 - h.1) (h'.2.1 - h.2.1)) s m as.toArray below meth c D cA lo O (h.1, h.2.1) (r, h') hctx
  have hrun := ev_run_ok (b0 := (h.1, h.2.1)) (oE := (r, h')) hM (fun pc op hf => (hall pc op hf).1) (fun pc op hf => (hall pc op hf).2) (Nat.le_refl _) (Nat.le_refl _) n _ (Nat.le_refl _) (Nat.le_refl _) hF
  have hw := hrun s.heap [] ((lg_sl as ++ List.replicate (nL - (lg_sl as).length) Slot.unset).toArray) hwd (fun q hq => by cases hq) (fun q _ => rfl) (Nat.le_refl _) hlo (ev_lv.entry hlen)
  rw [lg_entry_eq]
  simp only [Nat.sub_self] at hw
  exact hw
