/-! The reference's matching (laid by wip/whole/p88.py). -/
section ZM
variable {z : Nat × Nat} {m0 : Nat} {t : rf_S} {h : ev_H} {Q : ev_O → Prop}
theorem sp_le_loop {f p0 : Nat} {l : List Int32} (hf : f = 63 ∨ f = 64) (P : rf_P z m0 t h) (ha : ar_ t f l) (h8 : l.length ≤ 8) : ∀ (n e : Nat), e + n = max e l.length → Q (some (.int (nI (zle l n e))), h) → e ≤ 20 → ev_W (mk_Z_levelEnd z) (2, [some (.ref (m0 + (1 + rf_r f))), some (.int (nI l.length)), some (.int (nI p0)), some (.int (nI e))], [], h) Q := by
  have hfk : rf_k f = 0 ∧ rf_n f = 8 := by rcases hf with rfl | rfl <;> exact ⟨rfl, rfl⟩
  intro n
  induction n with
  | zero =>
    intro e hn k he
    refine ev_W.fn rfl rfl ?_
    refine ev_W.fn rfl rfl ?_
    refine ev_W.brT rfl rfl (nI_le (by omega) (by omega)) ?_
    refine ev_W.fn rfl rfl ?_
    refine ev_W.ret rfl rfl ?_
    exact k
  | succ n ih =>
    intro e hn k he
    obtain ⟨b, hb⟩ : ∃ b, l[e]? = some b := ⟨_, List.getElem?_eq_getElem (by omega)⟩
    have hbt := ha _ _ hb
    rw [zle, hb] at k
    refine ev_W.fn rfl rfl ?_
    refine ev_W.fn rfl rfl ?_
    refine ev_W.brF rfl rfl (nI_ge (by omega) (by omega)) ?_
    refine ev_W.fn rfl rfl ?_
    refine ev_W.fn rfl rfl ?_
    refine ev_W.ri f P hfk.1 (j := e) rfl (by omega) rfl ?_
    refine ev_W.fn rfl rfl ?_
    refine ev_W.br rfl rfl (fun h1 => ?_) (fun h1 => ?_)
    · rw [hbt] at h1
      rw [if_pos (by rw [h1])] at k
      refine ev_W.fn rfl rfl ?_
      refine ev_W.ret rfl rfl ?_
      exact k
    · rw [hbt] at h1
      rw [if_neg (fun q => h1 (Option.some.inj q))] at k
      refine ev_W.fn rfl rfl ?_
      refine ev_W.fn rfl rfl ?_
      have := ih (e + 1) (by omega) k (by omega)
      rw [← nI_1] at this
      exact this
theorem sp_Z_levelEnd {f p : Nat} {l : List Int32} (hf : f = 63 ∨ f = 64) (P : rf_P z m0 t h) (ha : ar_ t f l) (h8 : l.length ≤ 8) (hp : p ≤ l.length) (k : Q (some (.int (nI (zf_e l p))), h)) : ev_M (mf_Z_levelEnd z) [.ref (m0 + (1 + rf_r f)), .int (nI l.length), .int (nI p)] h Q := by
  refine ev_M.go rfl rfl ?_
  refine ev_W.fn rfl rfl ?_
  refine ev_W.fn rfl rfl ?_
  exact sp_le_loop hf P ha h8 (l.length - p) p (by omega) k (by omega)
abbrev ftL (m0 : Nat) (F T : Int64) (n m p q : Nat) (tu : Int32) (e f an sm : Int32) (y : Option Value) : ev_L := [some (.ref m0), some (.long F), none, some (.long T), none, some (.int (nI n)), some (.int (nI m)), some (.int (nI p)), some (.int (nI q)), some (.int tu), some (.int e), some (.int f), some (.int an), some (.int sm), y]
theorem sp_fe_loop {F T : Int64} {A B : List Int32} {p q e f : Nat} {tu : Int32} (P : rf_P z m0 t h) (ha : ar_ t 63 A) (hb : ar_ t 64 B) (hA : A.length ≤ 8) (hB : B.length ≤ 8) (hpe : p ≤ e) (heA : e ≤ A.length) (hfB : f ≤ B.length) (hqf : q ≤ f) : ∀ (n k : Nat) (sm : Bool), k + n = e - p → (sm = true → e - p = f - q) → (∀ y : Option Value, ev_W (mk_Z_fits z) (234, ftL m0 F T A.length B.length p q tu (nI e) (nI f) 0 (zb (zf_eq A B p q n k sm)) y, [], h) Q) → ev_W (mk_Z_fits z) (178, ftL m0 F T A.length B.length p q tu (nI e) (nI f) 0 (zb sm) (some (.int (nI k))), [], h) Q := by
  intro n
  induction n with
  | zero =>
    intro k sm hk hs g
    refine ev_W.fn rfl rfl ?_
    refine ev_W.fn rfl rfl ?_
    refine ev_W.fn rfl rfl ?_
    refine ev_W.fn rfl rfl ?_
    refine ev_W.brT rfl rfl (by rw [nI_sub hpe]; exact nI_le (by omega) (by omega)) ?_
    exact g _
  | succ n ih =>
    intro k sm hk hs g
    rw [zf_eq] at g
    refine ev_W.fn rfl rfl ?_
    refine ev_W.fn rfl rfl ?_
    refine ev_W.fn rfl rfl ?_
    refine ev_W.fn rfl rfl ?_
    refine ev_W.brF rfl rfl (by rw [nI_sub hpe]; exact nI_ge (by omega) (by omega)) ?_
    refine ev_W.fn rfl rfl ?_
    refine ev_W.br rfl rfl (fun h1 => ?_) (fun h1 => ?_)
    · have h1 := zb_n0.mp h1
      subst h1
      exact g _
    · have h1 := zb_1.mp h1
      subst h1
      have hef := hs rfl
      obtain ⟨a, haA⟩ : ∃ a, A[p + k]? = some a := ⟨_, List.getElem?_eq_getElem (by omega)⟩
      obtain ⟨b, hbB⟩ : ∃ b, B[q + k]? = some b := ⟨_, List.getElem?_eq_getElem (by omega)⟩
      have hat := ha _ _ haA
      have hbt := hb _ _ hbB
      rw [if_pos rfl, haA, hbB] at g
      refine ev_W.fn rfl rfl ?_
      refine ev_W.fn rfl rfl ?_
      refine ev_W.fn rfl rfl ?_
      refine ev_W.obj rfl P.2.2.2.1 rfl ?_
      refine ev_W.fn rfl rfl ?_
      refine ev_W.fn rfl rfl ?_
      refine ev_W.fn rfl rfl ?_
      refine ev_W.ri 63 P rfl (nI_add p k) (show p + k < 8 by omega) rfl ?_
      refine ev_W.fn rfl rfl ?_
      refine ev_W.obj rfl P.2.2.2.1 rfl ?_
      refine ev_W.fn rfl rfl ?_
      refine ev_W.fn rfl rfl ?_
      refine ev_W.fn rfl rfl ?_
      refine ev_W.ri 64 P rfl (nI_add q k) (show q + k < 8 by omega) rfl ?_
      refine ev_W.br rfl rfl (fun h2 => ?_) (fun h2 => ?_)
      · rw [hat, hbt] at h2
        have hd : decide ((some a : Option Int32) = some b) = false := decide_eq_false (fun q => h2 (Option.some.inj q))
        rw [hd] at g
        refine ev_W.fn rfl rfl ?_
        refine ev_W.fn rfl rfl ?_
        refine ev_W.fn rfl rfl ?_
        refine ev_W.fn rfl rfl ?_
        have := ih (k + 1) false (by omega) (fun q => by cases q) g
        rw [← nI_1] at this
        exact this
      · rw [hat, hbt] at h2
        have hd : decide ((some a : Option Int32) = some b) = true := decide_eq_true (by rw [Decidable.not_not.mp h2])
        rw [hd] at g
        refine ev_W.fn rfl rfl ?_
        refine ev_W.fn rfl rfl ?_
        refine ev_W.fn rfl rfl ?_
        refine ev_W.fn rfl rfl ?_
        refine ev_W.fn rfl rfl ?_
        have := ih (k + 1) true (by omega) (fun _ => hef) g
        rw [← nI_1] at this
        exact this
theorem sp_ft_loop {F T : Int64} {A B : List Int32} (P : rf_P z m0 t h) (ha : ar_ t 63 A) (hb : ar_ t 64 B) (hA : A.length ≤ 8) (hB : B.length ≤ 8) : ∀ (n i p q : Nat) (e0 f0 an0 sm0 y14 : Option Value), i + n = 10 → p ≤ A.length → q ≤ 20 → Q (some (.int (zb (zf_lp A B n p q))), h) → ev_W (mk_Z_fits z) (64, [some (.ref m0), some (.long F), none, some (.long T), none, some (.int (nI A.length)), some (.int (nI B.length)), some (.int (nI p)), some (.int (nI q)), some (.int (nI i)), e0, f0, an0, sm0, y14], [], h) Q := by
  intro n
  induction n with
  | zero =>
    intro i p q e0 f0 an0 sm0 y14 hi hp hq k
    refine ev_W.fn rfl rfl ?_
    refine ev_W.fn rfl rfl ?_
    refine ev_W.brT rfl rfl (nI_le (a := 10) (by omega) (by omega)) ?_
    refine ev_W.fn rfl rfl ?_
    refine ev_W.zret rfl (Or.inl rfl) ?_
    exact k
  | succ n ih =>
    intro i p q e0 f0 an0 sm0 y14 hi hp hq k
    rw [zf_lp] at k
    have hle := zle_le A (A.length - p) p
    have he : p ≤ zf_e A p ∧ zf_e A p ≤ A.length := ⟨hle.1, by unfold zf_e; omega⟩
    -- the end of a turn
    have fin : q ≤ B.length → Q (some (.int (zb (if zf_any A p = false ∧ zf_sm A B p q = false then false else if zf_e A p = A.length then decide (zf_e B q = B.length) else zf_lp A B n (zf_e A p + 1) (zf_e B q + 1)))), h) → ∀ (sm : Bool) (y : Option Value), (zf_any A p = false → sm = zf_sm A B p q) → ev_W (mk_Z_fits z) (234, ftL m0 F T A.length B.length p q (nI i) (nI (zf_e A p)) (nI (zf_e B q)) (zb (zf_any A p)) (zb sm) y, [], h) Q := by
      intro hqB k sm y hsm
      have hlf := zle_le B (B.length - q) q
      have hf : q ≤ zf_e B q ∧ zf_e B q ≤ B.length := ⟨hlf.1, by unfold zf_e; omega⟩
      have go : ¬ (zf_any A p = false ∧ zf_sm A B p q = false) → ev_W (mk_Z_fits z) (246, ftL m0 F T A.length B.length p q (nI i) (nI (zf_e A p)) (nI (zf_e B q)) (zb (zf_any A p)) (zb sm) y, [], h) Q := by
        intro hn
        rw [if_neg hn] at k
        refine ev_W.fn rfl rfl ?_
        refine ev_W.fn rfl rfl ?_
        refine ev_W.br rfl rfl (fun h1 => ?_) (fun h1 => ?_)
        · have h1 : ¬ zf_e A p = A.length := fun q => h1 (by rw [q])
          rw [if_neg h1] at k
          refine ev_W.fn rfl rfl ?_
          refine ev_W.fn rfl rfl ?_
          refine ev_W.fn rfl rfl ?_
          refine ev_W.fn rfl rfl ?_
          refine ev_W.fn rfl rfl ?_
          refine ev_W.fn rfl rfl ?_
          refine ev_W.fn rfl rfl ?_
          refine ev_W.fn rfl rfl ?_
          refine ev_W.fn rfl rfl ?_
          refine ev_W.fn rfl rfl ?_
          have := ih (i + 1) (zf_e A p + 1) (zf_e B q + 1) (some (.int (nI (zf_e A p)))) (some (.int (nI (zf_e B q)))) (some (.int (zb (zf_any A p)))) (some (.int (zb sm))) y (by omega) (by omega) (by omega) k
          rw [← nI_1, ← nI_1, ← nI_1] at this
          exact this
        · have h1 : zf_e A p = A.length := (nI_eq (by omega) (by omega)).mp (Decidable.not_not.mp h1)
          rw [if_pos h1] at k
          refine ev_W.fn rfl rfl ?_
          refine ev_W.fn rfl rfl ?_
          refine ev_W.br rfl rfl (fun h2 => ?_) (fun h2 => ?_)
          · refine ev_W.fn rfl rfl ?_
            refine ev_W.zret rfl (Or.inl rfl) ?_
            rw [decide_eq_false (fun q => h2 (by rw [q]))] at k
            exact k
          · refine ev_W.fn rfl rfl ?_
            refine ev_W.fn rfl rfl ?_
            refine ev_W.zret rfl (Or.inr rfl) ?_
            rw [decide_eq_true ((nI_eq (by omega) (by omega)).mp (Decidable.not_not.mp h2))] at k
            exact k
      refine ev_W.fn rfl rfl ?_
      refine ev_W.br rfl rfl (fun h1 => ?_) (fun h1 => ?_)
      · exact go (fun q => by have := zb_1.mp h1; rw [q.1] at this; cases this)
      · have h1 := zb_n0.mp (Decidable.not_not.mp h1)
        have hs := hsm h1
        refine ev_W.fn rfl rfl ?_
        refine ev_W.br rfl rfl (fun h2 => ?_) (fun h2 => ?_)
        · exact go (fun q => by have := zb_1.mp h2; rw [hs, q.2] at this; cases this)
        · have h2 := zb_n0.mp (Decidable.not_not.mp h2)
          refine ev_W.fn rfl rfl ?_
          refine ev_W.zret rfl (Or.inl rfl) ?_
          rw [if_pos ⟨h1, by rw [← hs]; exact h2⟩] at k
          exact k
    -- from where any is known
    have mid : q ≤ B.length → Q (some (.int (zb (if zf_any A p = false ∧ zf_sm A B p q = false then false else if zf_e A p = A.length then decide (zf_e B q = B.length) else zf_lp A B n (zf_e A p + 1) (zf_e B q + 1)))), h) → ∀ (y13 y14 : Option Value), ev_W (mk_Z_fits z) (155, [some (.ref m0), some (.long F), none, some (.long T), none, some (.int (nI A.length)), some (.int (nI B.length)), some (.int (nI p)), some (.int (nI q)), some (.int (nI i)), some (.int (nI (zf_e A p))), some (.int (nI (zf_e B q))), some (.int (zb (zf_any A p))), y13, y14], [], h) Q := by
      intro hqB k y13 y14
      have hlf := zle_le B (B.length - q) q
      have hf : q ≤ zf_e B q ∧ zf_e B q ≤ B.length := ⟨hlf.1, by unfold zf_e; omega⟩
      have lp : ∀ sm : Bool, sm = decide (zf_e A p - p = zf_e B q - q) → ev_W (mk_Z_fits z) (178, ftL m0 F T A.length B.length p q (nI i) (nI (zf_e A p)) (nI (zf_e B q)) (zb (zf_any A p)) (zb sm) (some (.int 0)), [], h) Q := by
        intro sm hsm
        cases han : zf_any A p with
        | false =>
          have fin' := fin hqB k
          rw [han] at fin'
          refine sp_fe_loop P ha hb hA hB he.1 he.2 hf.2 hf.1 (zf_e A p - p) 0 sm (by omega) (fun q => by rw [hsm] at q; exact of_decide_eq_true q) (fun y => fin' _ y (fun _ => by rw [hsm]; rfl))
        | true =>
          have h1 : zf_e A p - p = 1 := (of_decide_eq_true han).1
          have fin' := fun sm y => fin hqB k sm y (fun q => by rw [han] at q; cases q)
          rw [han] at fin'
          refine ev_W.fn rfl rfl ?_
          refine ev_W.fn rfl rfl ?_
          refine ev_W.fn rfl rfl ?_
          refine ev_W.fn rfl rfl ?_
          refine ev_W.brF rfl rfl (by rw [nI_sub he.1]; exact nI_ge (a := 0) (by omega) (by omega)) ?_
          refine ev_W.fn rfl rfl ?_
          refine ev_W.br rfl rfl (fun h2 => ?_) (fun h2 => ?_)
          · exact fin' _ _
          · refine ev_W.fn rfl rfl ?_
            refine ev_W.fn rfl rfl ?_
            exact fin' _ _
      refine ev_W.fn rfl rfl ?_
      refine ev_W.fn rfl rfl ?_
      refine ev_W.fn rfl rfl ?_
      refine ev_W.fn rfl rfl ?_
      refine ev_W.fn rfl rfl ?_
      refine ev_W.fn rfl rfl ?_
      refine ev_W.br rfl rfl (fun h1 => ?_) (fun h1 => ?_)
      · refine ev_W.fn rfl rfl ?_
        refine ev_W.fn rfl rfl ?_
        refine ev_W.fn rfl rfl ?_
        refine ev_W.fn rfl rfl ?_
        exact lp false (by symm; exact decide_eq_false (fun q => h1 (by rw [nI_sub he.1, nI_sub hf.1, q])))
      · refine ev_W.fn rfl rfl ?_
        refine ev_W.fn rfl rfl ?_
        refine ev_W.fn rfl rfl ?_
        refine ev_W.fn rfl rfl ?_
        refine ev_W.fn rfl rfl ?_
        exact lp true (by symm; exact decide_eq_true (by have := Decidable.not_not.mp h1; rw [nI_sub he.1, nI_sub hf.1] at this; exact (nI_eq (by omega) (by omega)).mp this))
    have two : ¬ A[p]? = some 35 → ev_W (mk_Z_fits z) (92, [some (.ref m0), some (.long F), none, some (.long T), none, some (.int (nI A.length)), some (.int (nI B.length)), some (.int (nI p)), some (.int (nI q)), some (.int (nI i)), e0, f0, an0, sm0, y14], [], h) Q := by
      intro h35
      rw [if_neg h35] at k
      refine ev_W.fn rfl rfl ?_
      refine ev_W.fn rfl rfl ?_
      refine ev_W.br rfl rfl (fun h2 => ?_) (fun h2 => ?_)
      · have hqB : q ≤ B.length := (nI_leI (by omega) (by omega)).mp h2
        rw [if_neg (by omega)] at k
        refine ev_W.fn rfl rfl ?_
        refine ev_W.obj rfl P.2.2.2.1 rfl ?_
        refine ev_W.fn rfl rfl ?_
        refine ev_W.fn rfl rfl ?_
        refine ev_W.cl rfl rfl rfl rfl rfl ?_
        refine sp_Z_levelEnd (f := 63) (by decide) P ha hA hp ?_
        refine ev_W.fn rfl rfl ?_
        refine ev_W.fn rfl rfl ?_
        refine ev_W.obj rfl P.2.2.2.1 rfl ?_
        refine ev_W.fn rfl rfl ?_
        refine ev_W.fn rfl rfl ?_
        refine ev_W.cl rfl rfl rfl rfl rfl ?_
        refine sp_Z_levelEnd (f := 64) (by decide) P hb hB hqB ?_
        refine ev_W.fn rfl rfl ?_
        refine ev_W.fn rfl rfl ?_
        refine ev_W.fn rfl rfl ?_
        refine ev_W.fn rfl rfl ?_
        refine ev_W.fn rfl rfl ?_
        refine ev_W.br rfl rfl (fun h3 => ?_) (fun h3 => ?_)
        · refine ev_W.fn rfl rfl ?_
          refine ev_W.fn rfl rfl ?_
          have hz : zf_any A p = false := decide_eq_false (fun q => h3 (by rw [nI_sub he.1, q.1]; rfl))
          have := mid hqB k sm0 y14
          rw [hz] at this
          exact this
        · have h3 : zf_e A p - p = 1 := by
            have := Decidable.not_not.mp h3
            rw [nI_sub he.1] at this
            exact (nI_eq (b := 1) (by omega) (by decide)).mp this
          obtain ⟨a, hap⟩ : ∃ a, A[p]? = some a := ⟨_, List.getElem?_eq_getElem (by omega)⟩
          have hat := ha _ _ hap
          refine ev_W.fn rfl rfl ?_
          refine ev_W.obj rfl P.2.2.2.1 rfl ?_
          refine ev_W.fn rfl rfl ?_
          refine ev_W.ri 63 P rfl rfl (show p < 8 by omega) rfl ?_
          refine ev_W.fn rfl rfl ?_
          refine ev_W.br rfl rfl (fun h4 => ?_) (fun h4 => ?_)
          · rw [hat] at h4
            refine ev_W.fn rfl rfl ?_
            refine ev_W.fn rfl rfl ?_
            have hz : zf_any A p = false := decide_eq_false (fun q => h4 (by rw [hap] at q; exact Option.some.inj q.2))
            have := mid hqB k sm0 y14
            rw [hz] at this
            exact this
          · rw [hat] at h4
            refine ev_W.fn rfl rfl ?_
            refine ev_W.fn rfl rfl ?_
            refine ev_W.fn rfl rfl ?_
            have hz : zf_any A p = true := decide_eq_true ⟨h3, by rw [hap, Decidable.not_not.mp h4]⟩
            have := mid hqB k sm0 y14
            rw [hz] at this
            exact this
      · refine ev_W.fn rfl rfl ?_
        refine ev_W.zret rfl (Or.inl rfl) ?_
        have hqB : B.length < q := Nat.lt_of_not_le (fun q => h2 (nI_le q (by omega)))
        rw [if_pos hqB] at k
        exact k
    refine ev_W.fn rfl rfl ?_
    refine ev_W.fn rfl rfl ?_
    refine ev_W.brF rfl rfl (nI_ge (b := 10) (by omega) (by decide)) ?_
    refine ev_W.fn rfl rfl ?_
    refine ev_W.fn rfl rfl ?_
    refine ev_W.br rfl rfl (fun h1 => ?_) (fun h1 => ?_)
    · exact two (fun q => by have := (List.getElem?_eq_some_iff.mp q).1; exact nI_ge this (by omega) h1)
    · have hpA : p < A.length := Nat.lt_of_not_le (fun q => h1 (nI_le q (by omega)))
      obtain ⟨a, hap⟩ : ∃ a, A[p]? = some a := ⟨_, List.getElem?_eq_getElem hpA⟩
      have hat := ha _ _ hap
      refine ev_W.fn rfl rfl ?_
      refine ev_W.obj rfl P.2.2.2.1 rfl ?_
      refine ev_W.fn rfl rfl ?_
      refine ev_W.ri 63 P rfl rfl (show p < 8 by omega) rfl ?_
      refine ev_W.fn rfl rfl ?_
      refine ev_W.br rfl rfl (fun h2 => ?_) (fun h2 => ?_)
      · rw [hat] at h2
        exact two (fun q => h2 (by rw [hap] at q; exact Option.some.inj q))
      · refine ev_W.fn rfl rfl ?_
        refine ev_W.zret rfl (Or.inr rfl) ?_
        rw [hat] at h2
        rw [if_pos (by rw [hap, Decidable.not_not.mp h2])] at k
        exact k
theorem sp_Z_fits {F T : Int64} (P : rf_P z m0 t h) (hF : 0 < (tz_bs F).length) (hT : 0 < (tz_bs T).length) (k : ∀ (t' : rf_S) (h' : ev_H), rf_P z m0 t' h' → rf_E m0 h h' → sc_ t t' → Q (some (.int (zb (zfit (tz_bs F) (tz_bs T)))), h')) : ev_M (mf_Z_fits z) [.ref m0, .long F, .long T] h Q := by
  have hA := tz_bs_len F
  have hB := tz_bs_len T
  refine ev_M.go rfl rfl ?_
  refine ev_W.fn rfl rfl ?_
  refine ev_W.fn rfl rfl ?_
  refine ev_W.obj rfl P.2.2.2.1 rfl ?_
  refine ev_W.cl rfl rfl rfl rfl rfl ?_
  refine sp_Z_split63 P (fun t1 h1 P1 E1 e2 e3 e4 => ?_)
  refine ev_W.fn rfl rfl ?_
  refine ev_W.fn rfl rfl ?_
  refine ev_W.fn rfl rfl ?_
  refine ev_W.obj rfl P1.2.2.2.1 rfl ?_
  refine ev_W.cl rfl rfl rfl rfl rfl ?_
  refine sp_Z_split64 P1 (fun t2 h2 P2 E2 g2 g3 g4 => ?_)
  have k1 := k t2 h2 P2 (E1.tr E2) ⟨g2.trans e2, fun f a b => (g3 f b).trans (e3 f a)⟩
  have ha : ar_ t2 63 (tz_bs F) := fun i b hb => by rw [g3 63 (by decide)]; exact e4 i b hb
  have hb : ar_ t2 64 (tz_bs T) := g4
  obtain ⟨a, hap⟩ : ∃ a, (tz_bs F)[0]? = some a := ⟨_, List.getElem?_eq_getElem hF⟩
  obtain ⟨b, hbp⟩ : ∃ b, (tz_bs T)[0]? = some b := ⟨_, List.getElem?_eq_getElem hT⟩
  have hat := ha _ _ hap
  have hbt := hb _ _ hbp
  unfold zfit at k1
  rw [hap, hbp] at k1
  have go : ¬ (((some a : Option Int32) = some 43 ∨ (some a : Option Int32) = some 35) ∧ (some b : Option Int32) = some 36) → ∀ (y7 y8 y9 y10 y11 y12 y13 y14 : Option Value), ev_W (mk_Z_fits z) (55, [some (.ref m0), some (.long F), none, some (.long T), none, some (.int (nI (tz_bs F).length)), some (.int (nI (tz_bs T).length)), y7, y8, y9, y10, y11, y12, y13, y14], [], h2) Q := by
    intro hn y7 y8 y9 y10 y11 y12 y13 y14
    rw [if_neg hn] at k1
    refine ev_W.fn rfl rfl ?_
    refine ev_W.fn rfl rfl ?_
    refine ev_W.fn rfl rfl ?_
    refine ev_W.fn rfl rfl ?_
    refine ev_W.fn rfl rfl ?_
    refine ev_W.fn rfl rfl ?_
    exact sp_ft_loop P2 ha hb hA hB 10 0 0 0 _ _ _ _ _ rfl (Nat.zero_le _) (Nat.zero_le _) k1
  refine ev_W.fn rfl rfl ?_
  refine ev_W.fn rfl rfl ?_
  refine ev_W.obj rfl P2.2.2.2.1 rfl ?_
  refine ev_W.fn rfl rfl ?_
  refine ev_W.ri 63 P2 rfl (j := 0) rfl (by decide) rfl ?_
  refine ev_W.fn rfl rfl ?_
  refine ev_W.br rfl rfl (fun h1 => ?_) (fun h1 => ?_)
  · rw [hat] at h1
    refine ev_W.fn rfl rfl ?_
    refine ev_W.obj rfl P2.2.2.2.1 rfl ?_
    refine ev_W.fn rfl rfl ?_
    refine ev_W.ri 64 P2 rfl (j := 0) rfl (by decide) rfl ?_
    refine ev_W.fn rfl rfl ?_
    refine ev_W.br rfl rfl (fun h3 => ?_) (fun h3 => ?_)
    · rw [hbt] at h3
      exact go (fun q => h3 (Option.some.inj q.2)) _ _ _ _ _ _ _ _
    · refine ev_W.fn rfl rfl ?_
      refine ev_W.zret rfl (Or.inl rfl) ?_
      rw [hbt] at h3
      rw [if_pos ⟨Or.inl (by rw [h1]), by rw [Decidable.not_not.mp h3]⟩] at k1
      exact k1
  · rw [hat] at h1
    refine ev_W.fn rfl rfl ?_
    refine ev_W.obj rfl P2.2.2.2.1 rfl ?_
    refine ev_W.fn rfl rfl ?_
    refine ev_W.ri 63 P2 rfl (j := 0) rfl (by decide) rfl ?_
    refine ev_W.fn rfl rfl ?_
    refine ev_W.br rfl rfl (fun h2 => ?_) (fun h2 => ?_)
    · rw [hat] at h2
      exact go (fun q => q.1.elim (fun q => h1 (Option.some.inj q)) (fun q => h2 (Option.some.inj q))) _ _ _ _ _ _ _ _
    · rw [hat] at h2
      refine ev_W.fn rfl rfl ?_
      refine ev_W.obj rfl P2.2.2.2.1 rfl ?_
      refine ev_W.fn rfl rfl ?_
      refine ev_W.ri 64 P2 rfl (j := 0) rfl (by decide) rfl ?_
      refine ev_W.fn rfl rfl ?_
      refine ev_W.br rfl rfl (fun h3 => ?_) (fun h3 => ?_)
      · rw [hbt] at h3
        exact go (fun q => h3 (Option.some.inj q.2)) _ _ _ _ _ _ _ _
      · refine ev_W.fn rfl rfl ?_
        refine ev_W.zret rfl (Or.inl rfl) ?_
        rw [hbt] at h3
        rw [if_pos ⟨Or.inr (by rw [Decidable.not_not.mp h2]), by rw [Decidable.not_not.mp h3]⟩] at k1
        exact k1
end ZM
