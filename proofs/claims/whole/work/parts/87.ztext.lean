/-! The reference's topics and filters (laid by wip/whole/p87.py). -/
def zt_ (l : List Int32) : Bool := decide (0 < l.length) && l.all tx_pl
def zf_ok (l : List Int32) (k : Nat) : Bool := match l[k]? with
  | none => false
  | some b => tx_pl b || (decide ((k = 0 ∨ l[k - 1]? = some 47) ∧ (k = l.length - 1 ∨ l[k + 1]? = some 47)) && (decide (b = 43) || (decide (b = 35) && decide (k = l.length - 1))))
def zf_g (l : List Int32) : Nat → Nat → Bool
  | 0, _ => true
  | n + 1, k => zf_ok l k && zf_g l n (k + 1)
def zf_ (l : List Int32) : Bool := decide (0 < l.length) && zf_g l l.length 0
def zle (l : List Int32) : Nat → Nat → Nat
  | 0, e => e
  | n + 1, e => if l[e]? = some 47 then e else zle l n (e + 1)
theorem zle_le (l : List Int32) : ∀ n e, e ≤ zle l n e ∧ zle l n e ≤ e + n := by
  intro n
  induction n with
  | zero => intro e; exact ⟨Nat.le_refl _, Nat.le_refl _⟩
  | succ n ih =>
    intro e
    rw [zle]
    split
    · omega
    · have := ih (e + 1); omega
def zf_eq (A B : List Int32) (p q : Nat) : Nat → Nat → Bool → Bool
  | 0, _, sm => sm
  | n + 1, k, sm => if sm = true then zf_eq A B p q n (k + 1) (decide (A[p + k]? = B[q + k]?)) else false
def zf_e (l : List Int32) (p : Nat) : Nat := zle l (l.length - p) p
def zf_any (A : List Int32) (p : Nat) : Bool := decide (zf_e A p - p = 1 ∧ A[p]? = some 43)
def zf_sm (A B : List Int32) (p q : Nat) : Bool := zf_eq A B p q (zf_e A p - p) 0 (decide (zf_e A p - p = zf_e B q - q))
def zf_lp (A B : List Int32) : Nat → Nat → Nat → Bool
  | 0, _, _ => false
  | n + 1, p, q => if A[p]? = some 35 then true else if B.length < q then false else if zf_any A p = false ∧ zf_sm A B p q = false then false else if zf_e A p = A.length then decide (zf_e B q = B.length) else zf_lp A B n (zf_e A p + 1) (zf_e B q + 1)
def zfit (A B : List Int32) : Bool := if (A[0]? = some 43 ∨ A[0]? = some 35) ∧ B[0]? = some 36 then false else zf_lp A B 10 0 0
theorem nI_sub {a b : Nat} (h : b ≤ a) : nI a - nI b = nI (a - b) := by
  have e : a = a - b + b := by omega
  rw [e, ← nI_add, Int32.add_sub_cancel]
  congr 1
  omega
theorem nI_p1 {a : Nat} (h : 0 < a) : nI a - 1 = nI (a - 1) := nI_sub (b := 1) h
-- array f begins with the list l
def ar_ (t : rf_S) (f : Nat) (l : List Int32) : Prop := ∀ i b, l[i]? = some b → t.1 f i = b
section TT
variable {z : Nat × Nat} {m0 : Nat} {t : rf_S} {h : ev_H} {Q : ev_O → Prop}
theorem sp_zt_loop {x : Int64} {l : List Int32} (P : rf_P z m0 t h) (ha : ar_ t 63 l) (h8 : l.length ≤ 8) : ∀ (B A : List Int32) (g : Bool), l = A ++ B → Q (some (.int (zb (g && B.all tx_pl))), h) → ev_W (mk_Z_isTopic z) (23, [some (.ref m0), some (.long x), none, some (.int (nI l.length)), some (.int (zb g)), some (.int (nI A.length))], [], h) Q := by
  intro B
  induction B with
  | nil =>
    intro A g hl k
    rw [List.append_nil] at hl
    rw [List.all_nil, Bool.and_true] at k
    refine ev_W.fn rfl rfl ?_
    refine ev_W.fn rfl rfl ?_
    refine ev_W.brT rfl rfl (nI_le (by rw [hl]; exact Nat.le_refl _) (by rw [hl] at h8; omega)) ?_
    refine ev_W.fn rfl rfl ?_
    refine ev_W.zret rfl (zb_01 g) ?_
    exact k
  | cons b B ih =>
    intro A g hl k
    have hL : l.length = A.length + 1 + B.length := by rw [hl]; simp; omega
    have hb : t.1 63 A.length = b := ha _ _ (by rw [hl]; simp)
    rw [List.all_cons] at k
    have next : ∀ g' : Bool, g' = (g && tx_pl b) → ev_W (mk_Z_isTopic z) (54, [some (.ref m0), some (.long x), none, some (.int (nI l.length)), some (.int (zb g')), some (.int (nI A.length))], [], h) Q := by
      intro g' hg
      refine ev_W.fn rfl rfl ?_
      refine ev_W.fn rfl rfl ?_
      have := ih (A ++ [b]) g' (by rw [hl]; simp) (by rw [hg, Bool.and_assoc]; exact k)
      rw [List.length_append] at this
      have e2 : nI (A.length + [b].length) = nI A.length + 1 := (nI_1 _).symm
      rw [e2] at this
      exact this
    refine ev_W.fn rfl rfl ?_
    refine ev_W.fn rfl rfl ?_
    refine ev_W.brF rfl rfl (nI_ge (by omega) (by omega)) ?_
    refine ev_W.fn rfl rfl ?_
    refine ev_W.br rfl rfl (fun h1 => ?_) (fun h1 => ?_)
    · refine ev_W.fn rfl rfl ?_
      refine ev_W.fn rfl rfl ?_
      exact next false (by rw [zb_n0.mp h1]; rfl)
    · refine ev_W.fn rfl rfl ?_
      refine ev_W.obj rfl P.2.2.2.1 rfl ?_
      refine ev_W.fn rfl rfl ?_
      refine ev_W.ri 63 P rfl rfl (show A.length < 8 by omega) rfl ?_
      refine ev_W.cl rfl rfl rfl rfl rfl ?_
      refine sp_Z_isLetter ?_
      refine ev_W.br rfl rfl (fun h2 => ?_) (fun h2 => ?_)
      · refine ev_W.fn rfl rfl ?_
        refine ev_W.fn rfl rfl ?_
        rw [hb] at h2
        exact next false (by rw [zb_n0.mp h2, Bool.and_false])
      · refine ev_W.fn rfl rfl ?_
        refine ev_W.fn rfl rfl ?_
        refine ev_W.fn rfl rfl ?_
        rw [hb] at h2
        exact next true (by rw [zb_1.mp h1, zb_1.mp h2]; rfl)
theorem sp_Z_isTopic {x : Int64} (P : rf_P z m0 t h) (k : ∀ (t' : rf_S) (h' : ev_H), rf_P z m0 t' h' → rf_E m0 h h' → sc_ t t' → Q (some (.int (zb (zt_ (tz_bs x)))), h')) : ev_M (mf_Z_isTopic z) [.ref m0, .long x] h Q := by
  have h8 := tz_bs_len x
  refine ev_M.go rfl rfl ?_
  refine ev_W.fn rfl rfl ?_
  refine ev_W.fn rfl rfl ?_
  refine ev_W.obj rfl P.2.2.2.1 rfl ?_
  refine ev_W.cl rfl rfl rfl rfl rfl ?_
  refine sp_Z_split63 P (fun t1 h1 P1 E1 e2 e3 e4 => ?_)
  have k1 := k t1 h1 P1 E1 ⟨e2, fun f h1 _ => e3 f h1⟩
  unfold zt_ at k1
  refine ev_W.fn rfl rfl ?_
  refine ev_W.fn rfl rfl ?_
  refine ev_W.br rfl rfl (fun h1 => ?_) (fun h1 => ?_)
  · have h1 : ¬ 0 < (tz_bs x).length := fun q => nI_nle q (by omega) h1
    refine ev_W.fn rfl rfl ?_
    refine ev_W.fn rfl rfl ?_
    refine ev_W.fn rfl rfl ?_
    refine ev_W.fn rfl rfl ?_
    exact sp_zt_loop (x := x) P1 e4 h8 (tz_bs x) [] false rfl (by rw [decide_eq_false h1] at k1; exact k1)
  · have h1 : 0 < (tz_bs x).length := Nat.pos_of_ne_zero (fun q => h1 (by rw [q]; decide))
    refine ev_W.fn rfl rfl ?_
    refine ev_W.fn rfl rfl ?_
    refine ev_W.fn rfl rfl ?_
    refine ev_W.fn rfl rfl ?_
    refine ev_W.fn rfl rfl ?_
    exact sp_zt_loop (x := x) P1 e4 h8 (tz_bs x) [] true rfl (by rw [decide_eq_true h1] at k1; exact k1)
theorem sp_zf_loop {x : Int64} {l : List Int32} (P : rf_P z m0 t h) (ha : ar_ t 63 l) (h8 : l.length ≤ 8) : ∀ (n i : Nat) (g : Bool) (y6 : Option Value), i + n = l.length → Q (some (.int (zb (g && zf_g l n i))), h) → ev_W (mk_Z_isFilter z) (23, [some (.ref m0), some (.long x), none, some (.int (nI l.length)), some (.int (zb g)), some (.int (nI i)), y6], [], h) Q := by
  intro n
  induction n with
  | zero =>
    intro i g y6 hi k
    rw [zf_g, Bool.and_true] at k
    refine ev_W.fn rfl rfl ?_
    refine ev_W.fn rfl rfl ?_
    refine ev_W.brT rfl rfl (nI_le (by omega) (by omega)) ?_
    refine ev_W.fn rfl rfl ?_
    refine ev_W.zret rfl (zb_01 g) ?_
    exact k
  | succ n ih =>
    intro i g y6 hi k
    rw [zf_g] at k
    obtain ⟨b, hb⟩ : ∃ b, l[i]? = some b := ⟨_, List.getElem?_eq_getElem (by omega)⟩
    have hbt : t.1 63 i = b := ha _ _ hb
    have next : ∀ (g' : Bool) (y : Option Value), g' = (g && zf_ok l i) → ev_W (mk_Z_isFilter z) (144, [some (.ref m0), some (.long x), none, some (.int (nI l.length)), some (.int (zb g')), some (.int (nI i)), y], [], h) Q := by
      intro g' y hg
      refine ev_W.fn rfl rfl ?_
      refine ev_W.fn rfl rfl ?_
      have := ih (i + 1) g' y (by omega) (by rw [hg, Bool.and_assoc]; exact k)
      rw [← nI_1] at this
      exact this
    have lst : (nI i = nI l.length - 1) ↔ i = l.length - 1 := by rw [nI_p1 (by omega)]; exact nI_eq (by omega) (by omega)
    have tail : ∀ al : Bool, al = decide ((i = 0 ∨ l[i - 1]? = some 47) ∧ (i = l.length - 1 ∨ l[i + 1]? = some 47)) → ev_W (mk_Z_isFilter z) (77, [some (.ref m0), some (.long x), none, some (.int (nI l.length)), some (.int (zb g)), some (.int (nI i)), some (.int (zb al))], [], h) Q := by
      intro al hal
      have eok : zf_ok l i = (tx_pl b || (al && (decide (b = 43) || (decide (b = 35) && decide (i = l.length - 1))))) := by
        rw [hal]; unfold zf_ok; rw [hb]
      refine ev_W.fn rfl rfl ?_
      refine ev_W.br rfl rfl (fun h1 => ?_) (fun h1 => ?_)
      · refine ev_W.fn rfl rfl ?_
        refine ev_W.fn rfl rfl ?_
        exact next false _ (by rw [zb_n0.mp h1]; rfl)
      · have h1 := zb_1.mp h1
        refine ev_W.fn rfl rfl ?_
        refine ev_W.obj rfl P.2.2.2.1 rfl ?_
        refine ev_W.fn rfl rfl ?_
        refine ev_W.ri 63 P rfl rfl (show i < 8 by omega) rfl ?_
        refine ev_W.cl rfl rfl rfl rfl rfl ?_
        refine sp_Z_isLetter ?_
        refine ev_W.br rfl rfl (fun h2 => ?_) (fun h2 => ?_)
        · refine ev_W.fn rfl rfl ?_
          refine ev_W.fn rfl rfl ?_
          refine ev_W.fn rfl rfl ?_
          rw [hbt] at h2
          exact next true _ (by rw [h1, eok, zb_1.mp h2]; rfl)
        · rw [hbt] at h2
          have h2 := zb_n0.mp (Decidable.not_not.mp h2)
          refine ev_W.fn rfl rfl ?_
          refine ev_W.obj rfl P.2.2.2.1 rfl ?_
          refine ev_W.fn rfl rfl ?_
          refine ev_W.ri 63 P rfl rfl (show i < 8 by omega) rfl ?_
          refine ev_W.fn rfl rfl ?_
          refine ev_W.br rfl rfl (fun h3 => ?_) (fun h3 => ?_)
          · rw [hbt] at h3
            refine ev_W.fn rfl rfl ?_
            refine ev_W.obj rfl P.2.2.2.1 rfl ?_
            refine ev_W.fn rfl rfl ?_
            refine ev_W.ri 63 P rfl rfl (show i < 8 by omega) rfl ?_
            refine ev_W.fn rfl rfl ?_
            refine ev_W.br rfl rfl (fun h5 => ?_) (fun h5 => ?_)
            · refine ev_W.fn rfl rfl ?_
              refine ev_W.fn rfl rfl ?_
              rw [hbt] at h5
              exact next false _ (by rw [eok, h2]; simp [h3, h5])
            · rw [hbt] at h5
              have h5 := Decidable.not_not.mp h5
              refine ev_W.fn rfl rfl ?_
              refine ev_W.br rfl rfl (fun h6 => ?_) (fun h6 => ?_)
              · refine ev_W.fn rfl rfl ?_
                refine ev_W.fn rfl rfl ?_
                exact next false _ (by rw [eok, zb_n0.mp h6, h2]; simp)
              · have h6 := zb_1.mp h6
                refine ev_W.fn rfl rfl ?_
                refine ev_W.fn rfl rfl ?_
                refine ev_W.fn rfl rfl ?_
                refine ev_W.fn rfl rfl ?_
                refine ev_W.br rfl rfl (fun h7 => ?_) (fun h7 => ?_)
                · refine ev_W.fn rfl rfl ?_
                  refine ev_W.fn rfl rfl ?_
                  exact next false _ (by rw [eok, h2, h6]; simp [h3, h5]; intro _; exact fun q => h7 (lst.mpr q))
                · refine ev_W.fn rfl rfl ?_
                  refine ev_W.fn rfl rfl ?_
                  refine ev_W.fn rfl rfl ?_
                  have h7 := lst.mp (Decidable.not_not.mp h7)
                  exact next true _ (by rw [eok, h1, h6]; simp [h5]; right; exact h7)
          · rw [hbt] at h3
            have h3 := Decidable.not_not.mp h3
            refine ev_W.fn rfl rfl ?_
            refine ev_W.br rfl rfl (fun h4 => ?_) (fun h4 => ?_)
            · refine ev_W.fn rfl rfl ?_
              refine ev_W.fn rfl rfl ?_
              refine ev_W.fn rfl rfl ?_
              exact next true _ (by rw [eok, h1, zb_1.mp h4]; simp [h3])
            · have h4 := zb_n0.mp (Decidable.not_not.mp h4)
              refine ev_W.fn rfl rfl ?_
              refine ev_W.obj rfl P.2.2.2.1 rfl ?_
              refine ev_W.fn rfl rfl ?_
              refine ev_W.ri 63 P rfl rfl (show i < 8 by omega) rfl ?_
              refine ev_W.fn rfl rfl ?_
              refine ev_W.br rfl rfl (fun h5 => ?_) (fun h5 => ?_)
              · refine ev_W.fn rfl rfl ?_
                refine ev_W.fn rfl rfl ?_
                exact next false _ (by rw [eok, h2, h4]; simp)
              · refine ev_W.fn rfl rfl ?_
                refine ev_W.br rfl rfl (fun h6 => ?_) (fun h6 => ?_)
                · refine ev_W.fn rfl rfl ?_
                  refine ev_W.fn rfl rfl ?_
                  exact next false _ (by rw [eok, h2, h4]; simp)
                · exact absurd h4 (by rw [zb_1.mp h6]; decide)
    refine ev_W.fn rfl rfl ?_
    refine ev_W.fn rfl rfl ?_
    refine ev_W.brF rfl rfl (nI_ge (by omega) (by omega)) ?_
    refine ev_W.fn rfl rfl ?_
    refine ev_W.br rfl rfl (fun h1 => ?_) (fun h1 => ?_)
    · have pv : i = 0 ∨ l[i - 1]? = some 47 := Or.inl ((nI_eq (b := 0) (by omega) (by decide)).mp h1)
      refine ev_W.fn rfl rfl ?_
      refine ev_W.fn rfl rfl ?_
      refine ev_W.fn rfl rfl ?_
      refine ev_W.fn rfl rfl ?_
      refine ev_W.br rfl rfl (fun h5 => ?_) (fun h5 => ?_)
      · refine ev_W.fn rfl rfl ?_
        refine ev_W.fn rfl rfl ?_
        refine ev_W.fn rfl rfl ?_
        exact tail true (by symm; exact decide_eq_true ⟨pv, Or.inl (lst.mp h5)⟩)
      · have h5 : ¬ i = l.length - 1 := fun q => h5 (lst.mpr q)
        obtain ⟨d, hd⟩ : ∃ d, l[i + 1]? = some d := ⟨_, List.getElem?_eq_getElem (by omega)⟩
        have hdt : t.1 63 (i + 1) = d := ha _ _ hd
        refine ev_W.fn rfl rfl ?_
        refine ev_W.obj rfl P.2.2.2.1 rfl ?_
        refine ev_W.fn rfl rfl ?_
        refine ev_W.fn rfl rfl ?_
        refine ev_W.fn rfl rfl ?_
        refine ev_W.ri 63 P rfl (nI_1 i) (show i + 1 < 8 by omega) rfl ?_
        refine ev_W.fn rfl rfl ?_
        refine ev_W.br rfl rfl (fun h6 => ?_) (fun h6 => ?_)
        · refine ev_W.fn rfl rfl ?_
          refine ev_W.fn rfl rfl ?_
          rw [hdt] at h6
          exact tail false (by symm; exact decide_eq_false (fun q => q.2.elim h5 (fun q => h6 (by rw [hd] at q; exact Option.some.inj q))))
        · refine ev_W.fn rfl rfl ?_
          refine ev_W.fn rfl rfl ?_
          refine ev_W.fn rfl rfl ?_
          rw [hdt] at h6
          exact tail true (by symm; exact decide_eq_true ⟨pv, Or.inr (by rw [hd, Decidable.not_not.mp h6])⟩)
    · have h1 : 0 < i := Nat.pos_of_ne_zero (fun q => h1 (by rw [q]; rfl))
      obtain ⟨a, hap⟩ : ∃ a, l[i - 1]? = some a := ⟨_, List.getElem?_eq_getElem (by omega)⟩
      have hat : t.1 63 (i - 1) = a := ha _ _ hap
      refine ev_W.fn rfl rfl ?_
      refine ev_W.obj rfl P.2.2.2.1 rfl ?_
      refine ev_W.fn rfl rfl ?_
      refine ev_W.fn rfl rfl ?_
      refine ev_W.fn rfl rfl ?_
      refine ev_W.ri 63 P rfl (nI_p1 h1) (show i - 1 < 8 by omega) rfl ?_
      refine ev_W.fn rfl rfl ?_
      refine ev_W.br rfl rfl (fun h2 => ?_) (fun h2 => ?_)
      · refine ev_W.fn rfl rfl ?_
        refine ev_W.fn rfl rfl ?_
        rw [hat] at h2
        exact tail false (by symm; exact decide_eq_false (fun q => q.1.elim (by omega) (fun q => h2 (by rw [hap] at q; exact Option.some.inj q))))
      · rw [hat] at h2
        have pv : i = 0 ∨ l[i - 1]? = some 47 := Or.inr (by rw [hap, Decidable.not_not.mp h2])
        refine ev_W.fn rfl rfl ?_
        refine ev_W.fn rfl rfl ?_
        refine ev_W.fn rfl rfl ?_
        refine ev_W.fn rfl rfl ?_
        refine ev_W.br rfl rfl (fun h5 => ?_) (fun h5 => ?_)
        · refine ev_W.fn rfl rfl ?_
          refine ev_W.fn rfl rfl ?_
          refine ev_W.fn rfl rfl ?_
          exact tail true (by symm; exact decide_eq_true ⟨pv, Or.inl (lst.mp h5)⟩)
        · have h5 : ¬ i = l.length - 1 := fun q => h5 (lst.mpr q)
          obtain ⟨d, hd⟩ : ∃ d, l[i + 1]? = some d := ⟨_, List.getElem?_eq_getElem (by omega)⟩
          have hdt : t.1 63 (i + 1) = d := ha _ _ hd
          refine ev_W.fn rfl rfl ?_
          refine ev_W.obj rfl P.2.2.2.1 rfl ?_
          refine ev_W.fn rfl rfl ?_
          refine ev_W.fn rfl rfl ?_
          refine ev_W.fn rfl rfl ?_
          refine ev_W.ri 63 P rfl (nI_1 i) (show i + 1 < 8 by omega) rfl ?_
          refine ev_W.fn rfl rfl ?_
          refine ev_W.br rfl rfl (fun h6 => ?_) (fun h6 => ?_)
          · refine ev_W.fn rfl rfl ?_
            refine ev_W.fn rfl rfl ?_
            rw [hdt] at h6
            exact tail false (by symm; exact decide_eq_false (fun q => q.2.elim h5 (fun q => h6 (by rw [hd] at q; exact Option.some.inj q))))
          · refine ev_W.fn rfl rfl ?_
            refine ev_W.fn rfl rfl ?_
            refine ev_W.fn rfl rfl ?_
            rw [hdt] at h6
            exact tail true (by symm; exact decide_eq_true ⟨pv, Or.inr (by rw [hd, Decidable.not_not.mp h6])⟩)
theorem sp_Z_isFilter {x : Int64} (P : rf_P z m0 t h) (k : ∀ (t' : rf_S) (h' : ev_H), rf_P z m0 t' h' → rf_E m0 h h' → sc_ t t' → Q (some (.int (zb (zf_ (tz_bs x)))), h')) : ev_M (mf_Z_isFilter z) [.ref m0, .long x] h Q := by
  have h8 := tz_bs_len x
  refine ev_M.go rfl rfl ?_
  refine ev_W.fn rfl rfl ?_
  refine ev_W.fn rfl rfl ?_
  refine ev_W.obj rfl P.2.2.2.1 rfl ?_
  refine ev_W.cl rfl rfl rfl rfl rfl ?_
  refine sp_Z_split63 P (fun t1 h1 P1 E1 e2 e3 e4 => ?_)
  have k1 := k t1 h1 P1 E1 ⟨e2, fun f h1 _ => e3 f h1⟩
  unfold zf_ at k1
  refine ev_W.fn rfl rfl ?_
  refine ev_W.fn rfl rfl ?_
  refine ev_W.br rfl rfl (fun h1 => ?_) (fun h1 => ?_)
  · have h1 : ¬ 0 < (tz_bs x).length := fun q => nI_nle q (by omega) h1
    refine ev_W.fn rfl rfl ?_
    refine ev_W.fn rfl rfl ?_
    refine ev_W.fn rfl rfl ?_
    refine ev_W.fn rfl rfl ?_
    exact sp_zf_loop (x := x) P1 e4 h8 (tz_bs x).length 0 false none (by omega) (by rw [decide_eq_false h1] at k1; exact k1)
  · have h1 : 0 < (tz_bs x).length := Nat.pos_of_ne_zero (fun q => h1 (by rw [q]; decide))
    refine ev_W.fn rfl rfl ?_
    refine ev_W.fn rfl rfl ?_
    refine ev_W.fn rfl rfl ?_
    refine ev_W.fn rfl rfl ?_
    refine ev_W.fn rfl rfl ?_
    exact sp_zf_loop (x := x) P1 e4 h8 (tz_bs x).length 0 true none (by omega) (by rw [decide_eq_true h1] at k1; exact k1)
end TT
