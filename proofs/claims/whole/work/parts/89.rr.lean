/-! How the reference's arrays hold the same state (laid by wip/whole/p89.py). -/
def rpk (t : rf_S) (i : Nat) (p : hb_Pk) : Prop := t.1 1 i = p.1 ∧ t.1 2 i = p.2.1 ∧ t.1 3 i = p.2.2.1 ∧ t.1 4 i = p.2.2.2.2.1 ∧ t.1 5 i = zb p.2.2.2.2.2.1 ∧ t.1 6 i = zb p.2.2.2.2.2.2.1 ∧ (p.1 = 1 → t.1 8 i = p.2.2.2.2.2.2.2.1 ∧ t.1 9 i = p.2.2.2.2.2.2.2.2.1 ∧ t.2.1 10 i = tz_pl p.2.2.2.1 ∧ t.1 11 i = p.2.2.2.2.2.2.2.2.2) ∧ (¬ p.1 = 1 → t.2.1 7 i = tz_pl p.2.2.2.1)
def rln (t : rf_S) (l : Nat) (ps : List hb_Pk) : Prop := t.1 0 l = nI ps.length ∧ ∀ k p, ps[k]? = some p → rpk t (32 * l + k) p
def rstP (t : rf_S) (i : Nat) (x : hb_Pa) : Prop := t.2.1 24 i = tz_pl x.1.1 ∧ t.1 25 i = x.1.2.1 ∧ t.1 26 i = x.1.2.2.1 ∧ t.1 27 i = zb x.1.2.2.2 ∧ t.1 28 i = x.2.1 ∧ (¬ x.2.1 = 0 → t.1 29 i = x.2.2)
def rst (t : rf_S) (c : Nat) (ps : List hb_Pa) : Prop := t.1 23 c = nI ps.length ∧ ∀ k x, ps[k]? = some x → rstP t (4 * c + k) x
def rsbP (t : rf_S) (i : Nat) (x : hb_Sb) : Prop := t.2.1 44 i = tz_pl x.1 ∧ t.1 45 i = x.2.1 ∧ t.1 46 i = zb x.2.2
def rsb (t : rf_S) (c : Nat) (bs : List hb_Sb) : Prop := t.1 43 c = nI bs.length ∧ ∀ k x, bs[k]? = some x → rsbP t (4 * c + k) x
def rhm (t : rf_S) (i : Nat) (m : hb_Ms) : Prop := t.2.1 49 i = tz_pl m.1 ∧ t.1 50 i = m.2.1 ∧ t.1 51 i = m.2.2.1 ∧ t.1 52 i = zb m.2.2.2
def rhr (t : rf_S) (c : Nat) (us : List hb_Pa) (ms : List hb_Ms) : Prop := t.1 47 c = nI us.length ∧ t.1 48 c = nI ms.length ∧ (∀ k x, us[k]? = some x → rhm t (8 * c + k) x.1 ∧ t.1 53 (8 * c + k) = x.2.1 ∧ t.1 54 (8 * c + k) = x.2.2) ∧ ∀ k m, ms[k]? = some m → rhm t (8 * c + us.length + k) m
def rkp (t : rf_S) (ms : List hb_Ms) : Prop := t.2.2.1 58 = nI ms.length ∧ ∀ k m, ms[k]? = some m → t.2.1 59 k = tz_pl m.1 ∧ t.1 60 k = m.2.1 ∧ t.1 61 k = m.2.2.1
def rhd (t : rf_S) (f c : Nat) (x : Int32) : Prop := ∀ i, i < 9 → t.1 f (9 * c + i) = zb (hbit x (nI i))
def rg (t : rf_S) (p : hb_Pk) : Prop := t.2.2.1 12 = p.1 ∧ t.2.2.1 13 = p.2.1 ∧ t.2.2.1 14 = p.2.2.1 ∧ t.2.2.1 15 = p.2.2.2.2.1 ∧ t.2.2.1 16 = zb p.2.2.2.2.2.2.1 ∧ (p.1 = 1 → t.2.2.1 18 = p.2.2.2.2.2.2.2.1 ∧ t.2.2.1 19 = p.2.2.2.2.2.2.2.2.1 ∧ t.2.2.2 20 = tz_pl p.2.2.2.1 ∧ t.2.2.1 21 = p.2.2.2.2.2.2.2.2.2) ∧ (¬ p.1 = 1 → t.2.2.2 17 = tz_pl p.2.2.2.1)
def RR (s : hb_S) (t : rf_S) : Prop := (∀ c, c < 3 → t.1 22 c = sI s 0 c) ∧ (∀ c, c < 3 → t.1 36 c = sI s 1 c) ∧ (∀ c, c < 3 → t.1 31 c = sI s 2 c) ∧ (∀ c, c < 3 → t.1 34 c = sI s 3 c) ∧ (∀ c, c < 3 → t.1 35 c = sI s 5 c) ∧ (∀ c, c < 3 → t.1 37 c = sI s 6 c) ∧ (∀ c, c < 3 → t.1 39 c = sI s 7 c) ∧ (∀ c, c < 3 → t.1 38 c = sI s 8 c) ∧ (∀ c, c < 3 → t.1 41 c = sI s 9 c) ∧ (∀ c, c < 3 → t.1 42 c = sI s 10 c) ∧ (∀ c, c < 3 → t.1 56 c = sI s 11 c) ∧ (∀ c, c < 3 → t.1 57 c = sI s 12 c) ∧ (∀ c, c < 3 → t.2.1 33 c = tz_pl (sJ s 0 c)) ∧ (∀ c, c < 3 → t.2.1 40 c = tz_pl (sJ s 1 c)) ∧ (∀ c, c < 3 → rhd t 30 c (sI s 4 c)) ∧ (∀ c, c < 3 → rhd t 55 c (sI s 13 c)) ∧ (∀ c, c < 3 → ∀ i, i < 100 → t.1 32 (100 * c + i) = sX s c i) ∧ (∀ l, l < 6 → rln t l (sN s l)) ∧ (∀ c, c < 3 → rst t c (sP s c)) ∧ (∀ c, c < 3 → rsb t c (sB s c)) ∧ (∀ c, c < 3 → rhr t c (sP s (3 + c)) (sM s c)) ∧ (rkp t (sM s 3)) ∧ (t.2.2.1 62 = sI s 14 0)
theorem RR.c0 {s : hb_S} {t : rf_S} (H : RR s t) : ∀ c, c < 3 → t.1 22 c = sI s 0 c := H.1
theorem RR.c1 {s : hb_S} {t : rf_S} (H : RR s t) : ∀ c, c < 3 → t.1 36 c = sI s 1 c := H.2.1
theorem RR.c2 {s : hb_S} {t : rf_S} (H : RR s t) : ∀ c, c < 3 → t.1 31 c = sI s 2 c := H.2.2.1
theorem RR.c3 {s : hb_S} {t : rf_S} (H : RR s t) : ∀ c, c < 3 → t.1 34 c = sI s 3 c := H.2.2.2.1
theorem RR.c5 {s : hb_S} {t : rf_S} (H : RR s t) : ∀ c, c < 3 → t.1 35 c = sI s 5 c := H.2.2.2.2.1
theorem RR.c6 {s : hb_S} {t : rf_S} (H : RR s t) : ∀ c, c < 3 → t.1 37 c = sI s 6 c := H.2.2.2.2.2.1
theorem RR.c7 {s : hb_S} {t : rf_S} (H : RR s t) : ∀ c, c < 3 → t.1 39 c = sI s 7 c := H.2.2.2.2.2.2.1
theorem RR.c8 {s : hb_S} {t : rf_S} (H : RR s t) : ∀ c, c < 3 → t.1 38 c = sI s 8 c := H.2.2.2.2.2.2.2.1
theorem RR.c9 {s : hb_S} {t : rf_S} (H : RR s t) : ∀ c, c < 3 → t.1 41 c = sI s 9 c := H.2.2.2.2.2.2.2.2.1
theorem RR.c10 {s : hb_S} {t : rf_S} (H : RR s t) : ∀ c, c < 3 → t.1 42 c = sI s 10 c := H.2.2.2.2.2.2.2.2.2.1
theorem RR.c11 {s : hb_S} {t : rf_S} (H : RR s t) : ∀ c, c < 3 → t.1 56 c = sI s 11 c := H.2.2.2.2.2.2.2.2.2.2.1
theorem RR.c12 {s : hb_S} {t : rf_S} (H : RR s t) : ∀ c, c < 3 → t.1 57 c = sI s 12 c := H.2.2.2.2.2.2.2.2.2.2.2.1
theorem RR.j0 {s : hb_S} {t : rf_S} (H : RR s t) : ∀ c, c < 3 → t.2.1 33 c = tz_pl (sJ s 0 c) := H.2.2.2.2.2.2.2.2.2.2.2.2.1
theorem RR.j1 {s : hb_S} {t : rf_S} (H : RR s t) : ∀ c, c < 3 → t.2.1 40 c = tz_pl (sJ s 1 c) := H.2.2.2.2.2.2.2.2.2.2.2.2.2.1
theorem RR.h4 {s : hb_S} {t : rf_S} (H : RR s t) : ∀ c, c < 3 → rhd t 30 c (sI s 4 c) := H.2.2.2.2.2.2.2.2.2.2.2.2.2.2.1
theorem RR.h13 {s : hb_S} {t : rf_S} (H : RR s t) : ∀ c, c < 3 → rhd t 55 c (sI s 13 c) := H.2.2.2.2.2.2.2.2.2.2.2.2.2.2.2.1
theorem RR.x {s : hb_S} {t : rf_S} (H : RR s t) : ∀ c, c < 3 → ∀ i, i < 100 → t.1 32 (100 * c + i) = sX s c i := H.2.2.2.2.2.2.2.2.2.2.2.2.2.2.2.2.1
theorem RR.n {s : hb_S} {t : rf_S} (H : RR s t) : ∀ l, l < 6 → rln t l (sN s l) := H.2.2.2.2.2.2.2.2.2.2.2.2.2.2.2.2.2.1
theorem RR.p {s : hb_S} {t : rf_S} (H : RR s t) : ∀ c, c < 3 → rst t c (sP s c) := H.2.2.2.2.2.2.2.2.2.2.2.2.2.2.2.2.2.2.1
theorem RR.b {s : hb_S} {t : rf_S} (H : RR s t) : ∀ c, c < 3 → rsb t c (sB s c) := H.2.2.2.2.2.2.2.2.2.2.2.2.2.2.2.2.2.2.2.1
theorem RR.u {s : hb_S} {t : rf_S} (H : RR s t) : ∀ c, c < 3 → rhr t c (sP s (3 + c)) (sM s c) := H.2.2.2.2.2.2.2.2.2.2.2.2.2.2.2.2.2.2.2.2.1
theorem RR.k {s : hb_S} {t : rf_S} (H : RR s t) : rkp t (sM s 3) := H.2.2.2.2.2.2.2.2.2.2.2.2.2.2.2.2.2.2.2.2.2.1
theorem RR.f {s : hb_S} {t : rf_S} (H : RR s t) : t.2.2.1 62 = sI s 14 0 := H.2.2.2.2.2.2.2.2.2.2.2.2.2.2.2.2.2.2.2.2.2.2
section RRW
variable {s : hb_S} {t : rf_S} {c : Nat}
theorem up_c {t0 : Nat → Int32} {g : Nat → Int32} {c : Nat} {v : Int32} (h : ∀ j, j < 3 → t0 j = g j) : ∀ j, j < 3 → va_up t0 c v j = if j = c then v else g j := by
  intro j hj
  by_cases e : j = c
  · subst e; rw [va_up_self, if_pos rfl]
  · rw [va_up_ne _ _ e, if_neg e]; exact h j hj
theorem RR.w0 (H : RR s t) (v : Int32) : RR (tI s 0 c v) (uI t 22 c v) := ⟨(fun j hj => by show va_up (t.1 22) c v j = (if 0 = 0 ∧ j = c then v else sI s 0 j); rw [up_c H.c0 j hj]; simp), H.c1, H.c2, H.c3, H.c5, H.c6, H.c7, H.c8, H.c9, H.c10, H.c11, H.c12, H.j0, H.j1, H.h4, H.h13, H.x, H.n, H.p, H.b, H.u, H.k, H.f⟩
theorem RR.w1 (H : RR s t) (v : Int32) : RR (tI s 1 c v) (uI t 36 c v) := ⟨H.c0, (fun j hj => by show va_up (t.1 36) c v j = (if 1 = 1 ∧ j = c then v else sI s 1 j); rw [up_c H.c1 j hj]; simp), H.c2, H.c3, H.c5, H.c6, H.c7, H.c8, H.c9, H.c10, H.c11, H.c12, H.j0, H.j1, H.h4, H.h13, H.x, H.n, H.p, H.b, H.u, H.k, H.f⟩
theorem RR.w2 (H : RR s t) (v : Int32) : RR (tI s 2 c v) (uI t 31 c v) := ⟨H.c0, H.c1, (fun j hj => by show va_up (t.1 31) c v j = (if 2 = 2 ∧ j = c then v else sI s 2 j); rw [up_c H.c2 j hj]; simp), H.c3, H.c5, H.c6, H.c7, H.c8, H.c9, H.c10, H.c11, H.c12, H.j0, H.j1, H.h4, H.h13, H.x, H.n, H.p, H.b, H.u, H.k, H.f⟩
theorem RR.w3 (H : RR s t) (v : Int32) : RR (tI s 3 c v) (uI t 34 c v) := ⟨H.c0, H.c1, H.c2, (fun j hj => by show va_up (t.1 34) c v j = (if 3 = 3 ∧ j = c then v else sI s 3 j); rw [up_c H.c3 j hj]; simp), H.c5, H.c6, H.c7, H.c8, H.c9, H.c10, H.c11, H.c12, H.j0, H.j1, H.h4, H.h13, H.x, H.n, H.p, H.b, H.u, H.k, H.f⟩
theorem RR.w5 (H : RR s t) (v : Int32) : RR (tI s 5 c v) (uI t 35 c v) := ⟨H.c0, H.c1, H.c2, H.c3, (fun j hj => by show va_up (t.1 35) c v j = (if 5 = 5 ∧ j = c then v else sI s 5 j); rw [up_c H.c5 j hj]; simp), H.c6, H.c7, H.c8, H.c9, H.c10, H.c11, H.c12, H.j0, H.j1, H.h4, H.h13, H.x, H.n, H.p, H.b, H.u, H.k, H.f⟩
theorem RR.w6 (H : RR s t) (v : Int32) : RR (tI s 6 c v) (uI t 37 c v) := ⟨H.c0, H.c1, H.c2, H.c3, H.c5, (fun j hj => by show va_up (t.1 37) c v j = (if 6 = 6 ∧ j = c then v else sI s 6 j); rw [up_c H.c6 j hj]; simp), H.c7, H.c8, H.c9, H.c10, H.c11, H.c12, H.j0, H.j1, H.h4, H.h13, H.x, H.n, H.p, H.b, H.u, H.k, H.f⟩
theorem RR.w7 (H : RR s t) (v : Int32) : RR (tI s 7 c v) (uI t 39 c v) := ⟨H.c0, H.c1, H.c2, H.c3, H.c5, H.c6, (fun j hj => by show va_up (t.1 39) c v j = (if 7 = 7 ∧ j = c then v else sI s 7 j); rw [up_c H.c7 j hj]; simp), H.c8, H.c9, H.c10, H.c11, H.c12, H.j0, H.j1, H.h4, H.h13, H.x, H.n, H.p, H.b, H.u, H.k, H.f⟩
theorem RR.w8 (H : RR s t) (v : Int32) : RR (tI s 8 c v) (uI t 38 c v) := ⟨H.c0, H.c1, H.c2, H.c3, H.c5, H.c6, H.c7, (fun j hj => by show va_up (t.1 38) c v j = (if 8 = 8 ∧ j = c then v else sI s 8 j); rw [up_c H.c8 j hj]; simp), H.c9, H.c10, H.c11, H.c12, H.j0, H.j1, H.h4, H.h13, H.x, H.n, H.p, H.b, H.u, H.k, H.f⟩
theorem RR.w9 (H : RR s t) (v : Int32) : RR (tI s 9 c v) (uI t 41 c v) := ⟨H.c0, H.c1, H.c2, H.c3, H.c5, H.c6, H.c7, H.c8, (fun j hj => by show va_up (t.1 41) c v j = (if 9 = 9 ∧ j = c then v else sI s 9 j); rw [up_c H.c9 j hj]; simp), H.c10, H.c11, H.c12, H.j0, H.j1, H.h4, H.h13, H.x, H.n, H.p, H.b, H.u, H.k, H.f⟩
theorem RR.w10 (H : RR s t) (v : Int32) : RR (tI s 10 c v) (uI t 42 c v) := ⟨H.c0, H.c1, H.c2, H.c3, H.c5, H.c6, H.c7, H.c8, H.c9, (fun j hj => by show va_up (t.1 42) c v j = (if 10 = 10 ∧ j = c then v else sI s 10 j); rw [up_c H.c10 j hj]; simp), H.c11, H.c12, H.j0, H.j1, H.h4, H.h13, H.x, H.n, H.p, H.b, H.u, H.k, H.f⟩
theorem RR.w11 (H : RR s t) (v : Int32) : RR (tI s 11 c v) (uI t 56 c v) := ⟨H.c0, H.c1, H.c2, H.c3, H.c5, H.c6, H.c7, H.c8, H.c9, H.c10, (fun j hj => by show va_up (t.1 56) c v j = (if 11 = 11 ∧ j = c then v else sI s 11 j); rw [up_c H.c11 j hj]; simp), H.c12, H.j0, H.j1, H.h4, H.h13, H.x, H.n, H.p, H.b, H.u, H.k, H.f⟩
theorem RR.w12 (H : RR s t) (v : Int32) : RR (tI s 12 c v) (uI t 57 c v) := ⟨H.c0, H.c1, H.c2, H.c3, H.c5, H.c6, H.c7, H.c8, H.c9, H.c10, H.c11, (fun j hj => by show va_up (t.1 57) c v j = (if 12 = 12 ∧ j = c then v else sI s 12 j); rw [up_c H.c12 j hj]; simp), H.j0, H.j1, H.h4, H.h13, H.x, H.n, H.p, H.b, H.u, H.k, H.f⟩
theorem RR.wj0 (H : RR s t) (v : Int64) : RR (tJ s 0 c v) (uL t 33 c (tz_pl v)) := ⟨H.c0, H.c1, H.c2, H.c3, H.c5, H.c6, H.c7, H.c8, H.c9, H.c10, H.c11, H.c12, (fun j hj => by
  show va_up (t.2.1 33) c (tz_pl v) j = tz_pl (if 0 = 0 ∧ j = c then v else sJ s 0 j)
  by_cases e : j = c
  · subst e; rw [va_up_self]; simp
  · rw [va_up_ne _ _ e]
    simp only [e, and_false, if_false]
    exact H.j0 j hj), H.j1, H.h4, H.h13, H.x, H.n, H.p, H.b, H.u, H.k, H.f⟩
theorem RR.wj1 (H : RR s t) (v : Int64) : RR (tJ s 1 c v) (uL t 40 c (tz_pl v)) := ⟨H.c0, H.c1, H.c2, H.c3, H.c5, H.c6, H.c7, H.c8, H.c9, H.c10, H.c11, H.c12, H.j0, (fun j hj => by
  show va_up (t.2.1 40) c (tz_pl v) j = tz_pl (if 1 = 1 ∧ j = c then v else sJ s 1 j)
  by_cases e : j = c
  · subst e; rw [va_up_self]; simp
  · rw [va_up_ne _ _ e]
    simp only [e, and_false, if_false]
    exact H.j1 j hj), H.h4, H.h13, H.x, H.n, H.p, H.b, H.u, H.k, H.f⟩
theorem RR.w14 (H : RR s t) (v : Int32) : RR (tI s 14 0 v) (uS t 62 v) := ⟨H.c0, H.c1, H.c2, H.c3, H.c5, H.c6, H.c7, H.c8, H.c9, H.c10, H.c11, H.c12, H.j0, H.j1, H.h4, H.h13, H.x, H.n, H.p, H.b, H.u, H.k, (by show va_up t.2.2.1 62 v 62 = (if 14 = 14 ∧ 0 = 0 then v else sI s 14 0); rw [va_up_self]; simp)⟩
theorem sc_.eq {t' : rf_S} (h : sc_ t t') : ∃ a b, t' = ((fun g => if g = 63 then a else if g = 64 then b else t.1 g), t.2) := by
  obtain ⟨e1, e2⟩ := h
  refine ⟨t'.1 63, t'.1 64, Prod.ext ?_ e1⟩
  funext g
  by_cases h1 : g = 63
  · rw [h1]; rfl
  · by_cases h2 : g = 64
    · rw [h2]; rfl
    · simp only [h1, h2, if_false]; exact e2 g h1 h2
theorem RR.sc {t' : rf_S} (H : RR s t) (h : sc_ t t') : RR s t' := by
  obtain ⟨a, b, rfl⟩ := h.eq
  exact ⟨H.c0, H.c1, H.c2, H.c3, H.c5, H.c6, H.c7, H.c8, H.c9, H.c10, H.c11, H.c12, H.j0, H.j1, H.h4, H.h13, H.x, H.n, H.p, H.b, H.u, H.k, H.f⟩
theorem rg.sc {t' : rf_S} {p : hb_Pk} (H : rg t p) (h : sc_ t t') : rg t' p := by
  obtain ⟨a, b, rfl⟩ := h.eq
  exact H
end RRW
def zr (z : Nat × Nat) (m0 : Nat) (s : hb_S) (p : hb_Pk) (h : ev_H) : Prop := ∃ t, rf_P z m0 t h ∧ RR s t ∧ rg t p
