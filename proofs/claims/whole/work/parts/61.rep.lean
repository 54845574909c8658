/-! The hub's state as numbers and lists, and how it lies in a picture of the heap. -/
-- packet: type, id, value, text, quality, again, mark, window, keep, willValue
abbrev hb_Pk : Type := Int32 × Int32 × Int32 × Int64 × Int32 × Bool × Bool × Int32 × Int32 × Int32
-- message: topic, value, quality, retain
abbrev hb_Ms : Type := Int64 × Int32 × Int32 × Bool
-- subscription: filter, quality, noLocal
abbrev hb_Sb : Type := Int64 × Int32 × Bool
-- parcel: message, stage, id
abbrev hb_Pa : Type := hb_Ms × Int32 × Int32
abbrev hb_Ev : Type := hb_Pk ⊕ hb_Ms ⊕ hb_Sb ⊕ hb_Pa
def hb_pkF (p : hb_Pk) : List Value := match p with
  | (ty, id, va, tx, qu, ag, mr, wi, ke, wv) => [.int ty, .int id, .int va, .long tx, .int qu, .int (zb ag), .int (zb mr), .int wi, .int ke, .int wv]
def hb_msF (m : hb_Ms) : List Value := match m with
  | (t, v, q, r) => [.long t, .int v, .int q, .int (zb r)]
def hb_sbF (s : hb_Sb) : List Value := match s with
  | (f, q, n) => [.long f, .int q, .int (zb n)]
-- the state: ints (kind, client), longs (kind, client), inboxes, lines (2c up, 2c+1 down), parcels (c store, 3+c under way), subscriptions, messages (c queue, 3 retained)
-- ints: 0 link.state 1 link.attached 2 inboxCount 3 willValue 4 client.held 5 open 6 window 7 silence 8 keep 9 conn.willValue 10 exists 11 expiry 12 count 13 session.held 14 failure; longs: 0 willTopic 1 conn.willTopic
abbrev hb_S : Type := (Nat → Nat → Int32) × (Nat → Nat → Int64) × (Nat → Nat → Int32) × (Nat → List hb_Pk) × (Nat → List hb_Pa) × (Nat → List hb_Sb) × (Nat → List hb_Ms)
def hb_u2 {α : Type} (f : Nat → Nat → α) (k c : Nat) (v : α) : Nat → Nat → α := fun k' c' => if k' = k ∧ c' = c then v else f k' c'
abbrev sI (s : hb_S) : Nat → Nat → Int32 := s.1
abbrev sJ (s : hb_S) : Nat → Nat → Int64 := s.2.1
abbrev sX (s : hb_S) : Nat → Nat → Int32 := s.2.2.1
abbrev sN (s : hb_S) : Nat → List hb_Pk := s.2.2.2.1
abbrev sP (s : hb_S) : Nat → List hb_Pa := s.2.2.2.2.1
abbrev sB (s : hb_S) : Nat → List hb_Sb := s.2.2.2.2.2.1
abbrev sM (s : hb_S) : Nat → List hb_Ms := s.2.2.2.2.2.2
def tI (s : hb_S) (k c : Nat) (v : Int32) : hb_S := (hb_u2 s.1 k c v, s.2)
def tJ (s : hb_S) (k c : Nat) (v : Int64) : hb_S := (s.1, hb_u2 s.2.1 k c v, s.2.2)
def tX (s : hb_S) (c : Nat) (f : Nat → Int32) : hb_S := (s.1, s.2.1, va_up s.2.2.1 c f, s.2.2.2)
def tN (s : hb_S) (l : Nat) (x : List hb_Pk) : hb_S := (s.1, s.2.1, s.2.2.1, va_up s.2.2.2.1 l x, s.2.2.2.2)
def tP (s : hb_S) (l : Nat) (x : List hb_Pa) : hb_S := (s.1, s.2.1, s.2.2.1, s.2.2.2.1, va_up s.2.2.2.2.1 l x, s.2.2.2.2.2)
def tB (s : hb_S) (l : Nat) (x : List hb_Sb) : hb_S := (s.1, s.2.1, s.2.2.1, s.2.2.2.1, s.2.2.2.2.1, va_up s.2.2.2.2.2.1 l x, s.2.2.2.2.2.2)
def tM (s : hb_S) (l : Nat) (x : List hb_Ms) : hb_S := (s.1, s.2.1, s.2.2.1, s.2.2.2.1, s.2.2.2.2.1, s.2.2.2.2.2.1, va_up s.2.2.2.2.2.2 l x)
-- the lists by one number: 0..5 lines, 6..8 stores, 9..11 subscriptions, 12..14 queues, 15..17 under way, 18 retained
def hb_X (s : hb_S) (j : Nat) : List hb_Ev := if j < 6 then (sN s j).map .inl else if j < 9 then (sP s (j - 6)).map (fun x => .inr (.inr (.inr x))) else if j < 12 then (sB s (j - 9)).map (fun x => .inr (.inr (.inl x))) else if j < 15 then (sM s (j - 12)).map (fun x => .inr (.inl x)) else if j < 18 then (sP s (j - 12)).map (fun x => .inr (.inr (.inr x))) else (sM s 3).map (fun x => .inr (.inl x))
-- where a list's object lies
def hb_ro (j : Nat) : Nat := if j < 6 then 4 + 7 * (j / 2) + j % 2 else if j < 9 then 7 + 7 * (j - 6) else if j < 12 then 30 + 6 * (j - 9) else if j < 15 then 31 + 6 * (j - 12) else if j < 18 then 32 + 6 * (j - 15) else 27
def hb_f2 {α β : Type} (P : α → β → Prop) : List α → List β → Prop
  | [], [] => True
  | a :: r, b :: t => P a b ∧ hb_f2 P r t
  | _, _ => False
-- an element of list j lies at a
def hb_el (own : Nat → Nat) (dyn j : Nat) (h : ev_H) (a : Nat) (v : hb_Ev) : Prop := dyn ≤ a ∧ match v with
  | .inl p => h.2.2 a = some (.inr (8, hb_pkF p)) ∧ own a = 0
  | .inr (.inl m) => h.2.2 a = some (.inr (9, hb_msF m)) ∧ own a = 0
  | .inr (.inr (.inl s)) => h.2.2 a = some (.inr (11, hb_sbF s)) ∧ own a = 100 + j
  | .inr (.inr (.inr x)) => own a = 100 + j ∧ ∃ ma, h.2.2 a = some (.inr (10, [.ref ma, .int x.2.1, .int x.2.2])) ∧ dyn ≤ ma ∧ own ma = 0 ∧ h.2.2 ma = some (.inr (9, hb_msF x.1))
abbrev hb_G : Type := (Nat → Nat) × (Nat → List Nat) × (Nat → Nat) × (Nat → Nat)
-- list j: its object, its array, its elements
def hb_ls (z : Nat × Nat) (sz dyn : Nat) (G : hb_G) (X : Nat → List hb_Ev) (h : ev_H) (j : Nat) : Prop := ls_at z h (sz + hb_ro j) (G.2.2.1 j) (G.2.2.2 j) (G.2.1 j) ∧ (G.2.2.1 j = z.1 ∨ (dyn ≤ G.2.2.1 j ∧ G.1 (G.2.2.1 j) = 1 + j ∧ 2 ≤ G.2.2.2 j)) ∧ G.2.2.2 j ≤ 40 ∧ hb_f2 (hb_el G.1 dyn j h) (G.2.1 j) (X j) ∧ (((6 ≤ j ∧ j < 12) ∨ (15 ≤ j ∧ j < 18)) → (G.2.1 j).Nodup)
-- objects that are no lists
def hb_fx (sz : Nat) (s : hb_S) (h : ev_H) : Prop :=
  h.2.2 sz = some (.inr (0, [.ref (sz + 1), .ref (sz + 2), .ref (sz + 24)])) ∧
  (∃ f, h.2.2 (sz + 1) = some (.inl (4, 3, .inr (.inr (.inr (.inr f))))) ∧ ∀ c, c < 3 → f c = some (sz + (3 + 7 * c))) ∧
  (∃ f, h.2.2 (sz + 2) = some (.inl (5, 3, .inr (.inr (.inr (.inr f))))) ∧ ∀ c, c < 3 → f c = some (sz + (6 + 7 * c))) ∧
  h.2.2 (sz + 24) = some (.inr (5, [.ref (sz + 1), .ref (sz + 25), .ref (sz + 26), .ref (sz + 27), .int (sI s 14 0)])) ∧
  (∃ f, h.2.2 (sz + 25) = some (.inl (6, 3, .inr (.inr (.inr (.inr f))))) ∧ ∀ c, c < 3 → f c = some (sz + (28 + 6 * c))) ∧
  (∃ f, h.2.2 (sz + 26) = some (.inl (7, 3, .inr (.inr (.inr (.inr f))))) ∧ ∀ c, c < 3 → f c = some (sz + (29 + 6 * c))) ∧
  (∀ c, c < 3 → h.2.2 (sz + (3 + 7 * c)) = some (.inr (1, [.ref (sz + (4 + 7 * c)), .ref (sz + (5 + 7 * c)), .int (sI s 0 c), .int (sI s 1 c)]))) ∧
  (∀ c, c < 3 → h.2.2 (sz + (6 + 7 * c)) = some (.inr (3, [.ref (sz + (3 + 7 * c)), .ref (sz + (7 + 7 * c)), .ref (sz + (8 + 7 * c)), .ref (sz + (9 + 7 * c)), .int (sI s 2 c), .long (sJ s 0 c), .int (sI s 3 c)]))) ∧
  (∀ c, c < 3 → h.2.2 (sz + (8 + 7 * c)) = some (.inr (4, [.int (sI s 4 c)]))) ∧
  (∀ c, c < 3 → h.2.2 (sz + (9 + 7 * c)) = some (.inl (0, 100, .inl (sX s c)))) ∧
  (∀ c, c < 3 → h.2.2 (sz + (28 + 6 * c)) = some (.inr (6, [.int (sI s 5 c), .int (sI s 6 c), .int (sI s 7 c), .int (sI s 8 c), .long (sJ s 1 c), .int (sI s 9 c)]))) ∧
  (∀ c, c < 3 → h.2.2 (sz + (29 + 6 * c)) = some (.inr (7, [.ref (sz + (30 + 6 * c)), .ref (sz + (31 + 6 * c)), .ref (sz + (32 + 6 * c)), .ref (sz + (33 + 6 * c)), .int (sI s 10 c), .int (sI s 11 c), .int (sI s 12 c)]))) ∧
  (∀ c, c < 3 → h.2.2 (sz + (33 + 6 * c)) = some (.inr (4, [.int (sI s 13 c)])))
-- the whole: what lies between sz + 46 and dyn is another's (mu); n1, n2: at most so much room is used
def hb_R (z : Nat × Nat) (sz dyn : Nat) (mu : Nat → Option ev_E) (G : hb_G) (n1 n2 : Nat) (s : hb_S) (h : ev_H) : Prop :=
  hp_ok z h ∧ z.1 < sz ∧ sz + 46 ≤ dyn ∧ dyn ≤ h.1 ∧ h.1 ≤ n1 ∧ h.2.1 ≤ n2 ∧ (∀ b, sz + 46 ≤ b → b < dyn → h.2.2 b = mu b) ∧ hb_fx sz s h ∧ ∀ j, j < 19 → hb_ls z sz dyn G (hb_X s) h j
-- what no method of the hub changes: packets and messages
def hb_E (dyn : Nat) (G : hb_G) (h : ev_H) (G' : hb_G) (h' : ev_H) : Prop := h.1 ≤ h'.1 ∧ ∀ b, dyn ≤ b → b < h.1 → G.1 b = 0 → G'.1 b = 0 ∧ h'.2.2 b = h.2.2 b
theorem hb_E.rf {dyn : Nat} {G : hb_G} {h : ev_H} : hb_E dyn G h G h := ⟨Nat.le_refl _, fun b _ _ h0 => ⟨h0, rfl⟩⟩
theorem hb_E.tr {dyn : Nat} {G G1 G2 : hb_G} {h h1 h2 : ev_H} (a : hb_E dyn G h G1 h1) (b : hb_E dyn G1 h1 G2 h2) : hb_E dyn G h G2 h2 := by
  refine ⟨Nat.le_trans a.1 b.1, fun x hx hl h0 => ?_⟩
  obtain ⟨a1, a2⟩ := a.2 x hx hl h0
  obtain ⟨b1, b2⟩ := b.2 x hx (Nat.lt_of_lt_of_le hl a.1) a1
  exact ⟨b1, b2.trans a2⟩
theorem hb_f2_mono {α β : Type} {P P' : α → β → Prop} : ∀ {l : List α} {t : List β}, hb_f2 P l t → (∀ a b, a ∈ l → b ∈ t → P a b → P' a b) → hb_f2 P' l t := by
  intro l
  induction l with
  | nil => intro t h _; cases t with
    | nil => trivial
    | cons => exact h.elim
  | cons a r ih =>
    intro t h hp
    cases t with
    | nil => exact h.elim
    | cons b t => exact ⟨hp a b List.mem_cons_self List.mem_cons_self h.1, ih h.2 (fun x y hx hy => hp x y (List.mem_cons_of_mem _ hx) (List.mem_cons_of_mem _ hy))⟩
theorem hb_f2_len {α β : Type} {P : α → β → Prop} : ∀ {l : List α} {t : List β}, hb_f2 P l t → l.length = t.length := by
  intro l
  induction l with
  | nil => intro t h; cases t with
    | nil => rfl
    | cons => exact h.elim
  | cons a r ih =>
    intro t h
    cases t with
    | nil => exact h.elim
    | cons b t => simp [ih h.2]
theorem hb_f2_get {α β : Type} {P : α → β → Prop} : ∀ {l : List α} {t : List β} {i : Nat} {b : β}, hb_f2 P l t → t[i]? = some b → ∃ a, l[i]? = some a ∧ P a b := by
  intro l
  induction l with
  | nil => intro t i b h hb; cases t with
    | nil => simp at hb
    | cons => exact h.elim
  | cons a r ih =>
    intro t i b h hb
    cases t with
    | nil => exact h.elim
    | cons x t =>
      cases i with
      | zero => simp at hb; subst hb; exact ⟨a, by simp, h.1⟩
      | succ i =>
        simp only [List.getElem?_cons_succ] at hb
        obtain ⟨y, h1, h2⟩ := ih h.2 hb
        exact ⟨y, by simpa using h1, h2⟩
theorem hb_f2_mem {α β : Type} {P : α → β → Prop} : ∀ {l : List α} {t : List β} {a : α}, hb_f2 P l t → a ∈ l → ∃ b, b ∈ t ∧ P a b := by
  intro l
  induction l with
  | nil => intro t a h ha; cases ha
  | cons x r ih =>
    intro t a h ha
    cases t with
    | nil => exact h.elim
    | cons b t =>
      rcases List.mem_cons.mp ha with e | e
      · rw [e]; exact ⟨b, List.mem_cons_self, h.1⟩
      · obtain ⟨y, h1, h2⟩ := ih h.2 e
        exact ⟨y, List.mem_cons_of_mem _ h1, h2⟩
theorem hb_f2_app {α β : Type} {P : α → β → Prop} : ∀ {l : List α} {t : List β} {a : α} {b : β}, hb_f2 P l t → P a b → hb_f2 P (l ++ [a]) (t ++ [b]) := by
  intro l
  induction l with
  | nil => intro t a b h hp; cases t with
    | nil => exact ⟨hp, trivial⟩
    | cons => exact h.elim
  | cons x r ih =>
    intro t a b h hp
    cases t with
    | nil => exact h.elim
    | cons y t => exact ⟨h.1, ih h.2 hp⟩
theorem hb_f2_erase {α β : Type} {P : α → β → Prop} : ∀ {l : List α} {t : List β} (i : Nat), hb_f2 P l t → hb_f2 P (l.eraseIdx i) (t.eraseIdx i) := by
  intro l
  induction l with
  | nil => intro t i h; cases t with
    | nil => exact h
    | cons => exact h.elim
  | cons x r ih =>
    intro t i h
    cases t with
    | nil => exact h.elim
    | cons y t =>
      cases i with
      | zero => exact h.2
      | succ i => exact ⟨h.1, ih i h.2⟩
theorem hb_f2_set {α β : Type} {P : α → β → Prop} : ∀ {l : List α} {t : List β} {i : Nat} {a : α} {b : β}, hb_f2 P l t → P a b → hb_f2 P (l.set i a) (t.set i b) := by
  intro l
  induction l with
  | nil => intro t i a b h hp; cases t with
    | nil => exact h
    | cons => exact h.elim
  | cons x r ih =>
    intro t i a b h hp
    cases t with
    | nil => exact h.elim
    | cons y t =>
      cases i with
      | zero => exact ⟨hp, h.2⟩
      | succ i => exact ⟨h.1, ih h.2 hp⟩
