/-! A tree without newat and random: its evaluation leaves atoms and seed as they were (reference; made by qv.py). -/
def Qt (dr : Bool) (lc : Nat → Prop) : Prop := ¬ lc 200 ∧ (lc 201 → dr = true)
/-- a quiet tree -/
def qN (T : Nat → Nat → Int32) (FN : Nat → Nat → Prop) (dr : Bool) (nt : Nat) (x : Int32) : Prop := ∃ (f O r K : Nat) (lc : Nat → Prop), Qt dr lc ∧ WN T FN f nt O r K lc x
def Nd (T : Nat → Nat → Int32) (x : Int32) : Prop := ∃ n, x = nI n ∧ (1 ≤ n ∧ n < LNo T % 70001)
def Fq (FN : Nat → Nat → Prop) (v : Int32) : Prop := ∃ fn m, v = nI fn ∧ FN fn m
def I7 (T : Nat → Nat → Int32) (FN : Nat → Nat → Prop) (dr : Bool) (x y : Int32) : Prop := Nd T x ∧ qN T FN dr 0 (T 7 x.toNatClampNeg) ∧ (y = 22 → qN T FN dr 0 (T 8 x.toNatClampNeg))
def I8 (T : Nat → Nat → Int32) (FN : Nat → Nat → Prop) (dr : Bool) (x : Int32) : Prop := Nd T x ∧ Fq FN (T 5 x.toNatClampNeg) ∧ qN T FN dr 3 (T 6 x.toNatClampNeg)
def I9 (T : Nat → Nat → Int32) (FN : Nat → Nat → Prop) (dr : Bool) (x : Int32) : Prop := Nd T x ∧ qN T FN dr 0 (T 7 x.toNatClampNeg)
def I10 (T : Nat → Nat → Int32) (FN : Nat → Nat → Prop) (dr : Bool) (x : Int32) : Prop := Nd T x ∧ qN T FN dr 3 (T 6 x.toNatClampNeg)
def I12 (T : Nat → Nat → Int32) (FN : Nat → Nat → Prop) (dr : Bool) (x : Int32) : Prop := Nd T x ∧ qN T FN dr 0 (T 6 x.toNatClampNeg) ∧ (T 7 x.toNatClampNeg = -1 ∨ qN T FN dr 0 (T 7 x.toNatClampNeg)) ∧ qN T FN dr 0 (T 8 x.toNatClampNeg)
def I13 (T : Nat → Nat → Int32) (FN : Nat → Nat → Prop) (dr : Bool) (x : Int32) : Prop := Nd T x ∧ qN T FN dr 4 (T 6 x.toNatClampNeg) ∧ (T 7 x.toNatClampNeg = -1 ∨ qN T FN dr 0 (T 7 x.toNatClampNeg)) ∧ qN T FN dr 0 (T 8 x.toNatClampNeg)
def I14 (T : Nat → Nat → Int32) (FN : Nat → Nat → Prop) (dr : Bool) (x : Int32) : Prop := Nd T x ∧ qN T FN dr 4 (T 6 x.toNatClampNeg) ∧ qN T FN dr 0 (T 7 x.toNatClampNeg)
def I15 (T : Nat → Nat → Int32) (FN : Nat → Nat → Prop) (dr : Bool) (x : Int32) : Prop := Nd T x ∧ qN T FN dr 5 (T 6 x.toNatClampNeg)
def ID (T : Nat → Nat → Int32) (FN : Nat → Nat → Prop) (dr : Bool) (x : Int32) : Prop := Nd T x ∧ qN T FN dr 0 (T 6 x.toNatClampNeg) ∧ (T 4 x.toNatClampNeg = 9 → dr = true ∨ Fok (T 5 x.toNatClampNeg))
def qI1 (T : Nat → Nat → Int32) (FN : Nat → Nat → Prop) (dr : Bool) (x : Int32) : Prop := Nd T x ∧ qN T FN dr 0 (T 7 x.toNatClampNeg) ∧ qN T FN dr 4 (T 9 x.toNatClampNeg)
/-- a chain: from its beginning up to what is evaluated -/
def Cc (T : Nat → Nat → Int32) (FN : Nat → Nat → Prop) (dr : Bool) (k : Nat) (ch : Nat → Nat) : Prop := (∀ i, i ≤ k → (1 ≤ ch i ∧ ch i < LNo T % 70001)) ∧ (∀ i, i < k → T 6 (ch (i + 1)) = nI (ch i) ∧ T 9 (ch i) = nI (ch (i + 1))) ∧ ¬ Ov (T 4 (ch 0)) ∧ (∀ i, 1 ≤ i → i ≤ k → Ov (T 4 (ch i)) ∧ qN T FN dr 2 (nI (ch i))) ∧ qN T FN dr 1 (nI (ch 0))
def Chq (T : Nat → Nat → Int32) (FN : Nat → Nat → Prop) (dr : Bool) (x y : Int32) : Prop := ∃ k ch i, x = nI (ch k) ∧ y = nI (ch i) ∧ i ≤ k ∧ Cc T FN dr k ch
def Ch0 (T : Nat → Nat → Int32) (FN : Nat → Nat → Prop) (dr : Bool) (x y : Int32) : Prop := ∃ k ch, x = nI (ch k) ∧ y = nI (ch 0) ∧ Cc T FN dr k ch
/-- tables, bodies, iterators that were opened -/
def Qd (T : Nat → Nat → Int32) (FN : Nat → Nat → Prop) (dr : Bool) (M : Nat) (σ : MS) : Prop := (∀ a i, 4 ≤ a → a ≤ 9 → (1 ≤ i ∧ i < LNo T % 70001) → σ.2.2 a i = T a i) ∧ (∀ fn m, FN fn m → fn < 41 ∧ qN T FN dr 0 (σ.2.2 17 fn)) ∧ (σ.1 72).toNatClampNeg ≤ M ∧ ∀ i, i < M → qI1 T FN dr (σ.2.2 50 i)
def Qd9 (T : Nat → Nat → Int32) (FN : Nat → Nat → Prop) (dr : Bool) (M : Nat) (σ : MS) : Prop := (∀ a i, 4 ≤ a → a ≤ 9 → (1 ≤ i ∧ i < LNo T % 70001) → σ.2.2 a i = T a i) ∧ (∀ fn m, FN fn m → fn < 41 ∧ qN T FN dr 0 (σ.2.2 17 fn)) ∧ (σ.1 72).toNatClampNeg ≤ M + 1 ∧ ∀ i, i < M → qI1 T FN dr (σ.2.2 50 i)
def P9 (T : Nat → Nat → Int32) (FN : Nat → Nat → Prop) (dr : Bool) (M : Nat) (σ : MS) : Prop := Qd T FN dr M σ ∨ (σ.1 56 ≤ 0 ∧ Qd9 T FN dr M σ)
def K0 (dr : Bool) (σ ρ : MS) : Prop := (dr = false → ρ.2.1 96 = σ.2.1 96) ∧ ρ.1 95 = σ.1 95
def QP (T : Nat → Nat → Int32) (FN : Nat → Nat → Prop) (dr : Bool) (P : Nat → MS → Prop) (M : Nat) (σ : MS) (x : Option (Int32 × MS)) : Prop := ∀ r, x = some r → ∃ M', M ≤ M' ∧ K0 dr σ r.2 ∧ P M' r.2
section QVD
variable {T : Nat → Nat → Int32} {FN : Nat → Nat → Prop} {dr : Bool} {P : Nat → MS → Prop} {M : Nat} {σ σ' ρ : MS} {x y : Int32} {o a b : Option (Int32 × MS)} {f : Int32 × MS → Option (Int32 × MS)}
theorem cl_eq {n : Nat} (h : (1 ≤ n ∧ n < LNo T % 70001)) : (nI n).toNatClampNeg = n := n_cl (by omega)
theorem nd_i (h : Nd T x) : (1 ≤ x.toNatClampNeg ∧ x.toNatClampNeg < LNo T % 70001) := by
  obtain ⟨n, rfl, h⟩ := h
  rw [cl_eq h]; exact h
theorem cl_up (h : ¬ (y < 0 ∨ 4000 ≤ y.toNatClampNeg)) : (y + 1).toNatClampNeg = y.toNatClampNeg + 1 := by
  have h0 : 0 ≤ y.toInt := by
    have : ¬ y < 0 := fun z => h (Or.inl z)
    rw [i_lt] at this
    have z : (0 : Int32).toInt = 0 := rfl
    omega
  obtain ⟨n, hn⟩ : ∃ n, y = nI n ∧ n < 2147483648 := ⟨y.toInt.toNat, n_ofpos h0, by have := y.toInt_lt; omega⟩
  rw [hn.1, n_cl hn.2] at h
  rw [hn.1, n_add1, n_cl hn.2, n_cl (by omega)]
theorem cl_dn (h : ¬ (x - 1 < 0 ∨ 4000 ≤ (x - 1).toNatClampNeg)) : x.toNatClampNeg = (x - 1).toNatClampNeg + 1 := by
  rw [← cl_up h, Int32.sub_add_cancel]
theorem kr_a (h : kr dr σ' = kr dr σ) : (∀ a, 4 ≤ a → a ≤ 9 → σ'.2.2 a = σ.2.2 a) ∧ σ'.2.2 17 = σ.2.2 17 ∧ σ'.2.2 50 = σ.2.2 50 ∧ σ'.1 72 = σ.1 72 ∧ K0 dr σ σ' := by
  unfold kr at h
  simp only [Prod.mk.injEq] at h
  obtain ⟨h96, h4, h5, h6, h7, h8, h9, h17, h50, h95, h72⟩ := h
  refine ⟨fun a a4 a9 => ?_, h17, h50, h72, fun z => by subst z; exact h96, h95⟩
  have : a = 4 ∨ a = 5 ∨ a = 6 ∨ a = 7 ∨ a = 8 ∨ a = 9 := by omega
  rcases this with rfl | rfl | rfl | rfl | rfl | rfl
  · exact h4
  · exact h5
  · exact h6
  · exact h7
  · exact h8
  · exact h9
theorem Qd_k (h : kr dr σ' = kr dr σ) (hQ : Qd T FN dr M σ) : Qd T FN dr M σ' := by
  obtain ⟨k1, k2, k3, k4, _⟩ := kr_a h
  refine ⟨fun a i a4 a9 hi => ?_, fun fn m z => ?_, ?_, fun i hi => ?_⟩
  · rw [k1 a a4 a9]; exact hQ.1 a i a4 a9 hi
  · rw [k2]; exact hQ.2.1 fn m z
  · rw [k4]; exact hQ.2.2.1
  · rw [k3]; exact hQ.2.2.2 i hi
theorem K0_k (h : kr dr σ' = kr dr σ) : K0 dr σ σ' := (kr_a h).2.2.2.2
theorem K0_k9 (h1 : ρ.2.1 96 = σ.2.1 96) (h2 : ρ.1 95 = σ.1 95) : K0 dr σ ρ := ⟨fun _ => h1, h2⟩
theorem K0_tr (a : K0 dr σ σ') (b : K0 dr σ' ρ) : K0 dr σ ρ := ⟨fun z => (b.1 z).trans (a.1 z), b.2.trans a.2⟩
theorem rd (hQ : Qd T FN dr M σ) (h : Nd T x) (a : Nat) (h4 : 4 ≤ a) (h9 : a ≤ 9) : σ.2.2 a x.toNatClampNeg = T a x.toNatClampNeg := hQ.1 a _ h4 h9 (nd_i h)
theorem Qd9_o (h : P9 T FN dr M σ) : Qd9 T FN dr M σ := by
  rcases h with h | h
  · exact ⟨h.1, h.2.1, Nat.le_succ_of_le h.2.2.1, h.2.2.2⟩
  · exact h.2
theorem Qd9_s (hQ : Qd T FN dr M σ) (h : ¬ (σ.1 72 < 0 ∨ 4000 ≤ (σ.1 72).toNatClampNeg)) : Qd9 T FN dr M (upd σ.1 72 (σ.1 72 + 1), σ.2.1, σ.2.2) := by
  refine ⟨hQ.1, hQ.2.1, ?_, hQ.2.2.2⟩
  show (σ.1 72 + 1).toNatClampNeg ≤ M + 1
  rw [cl_up h]
  exact Nat.succ_le_succ hQ.2.2.1
theorem It_at (hQ : Qd T FN dr M σ) (h : ¬ (σ.1 72 - 1 < 0 ∨ 4000 ≤ (σ.1 72 - 1).toNatClampNeg)) : qI1 T FN dr (σ.2.2 50 (σ.1 72 - 1).toNatClampNeg) := by
  have e := cl_dn h
  have := hQ.2.2.1
  exact hQ.2.2.2 _ (by omega)
theorem QP_no : QP T FN dr P M σ none := fun r h => by cases h
theorem QP_some {v : Int32} (h : P M ρ) (k : K0 dr σ ρ) : QP T FN dr P M σ (some (v, ρ)) := fun r e => by
  cases e
  exact ⟨M, Nat.le_refl _, k, h⟩
theorem QP_ite {c : Prop} {_ : Decidable c} (h1 : c → QP T FN dr P M σ a) (h2 : ¬ c → QP T FN dr P M σ b) : QP T FN dr P M σ (if c then a else b) := by
  by_cases h : c
  · rw [if_pos h]; exact h1 h
  · rw [if_neg h]; exact h2 h
theorem QP_chk {c : Prop} {_ : Decidable c} (h1 : c → QP T FN dr P M σ a) : QP T FN dr P M σ (if c then a else none) := QP_ite h1 (fun _ => QP_no)
theorem QP_od {d : Nat} {f : Nat → Option (Int32 × MS)} (h : ∀ e, QP T FN dr P M σ (f e)) : QP T FN dr P M σ (od d f) := by
  cases d with
  | zero => exact QP_no
  | succ e => exact h e
theorem QP_to (h : kr dr σ' = kr dr σ) (t : QP T FN dr P M σ' o) : QP T FN dr P M σ o := fun r e => by
  obtain ⟨M', m1, m2, m3⟩ := t r e
  exact ⟨M', m1, K0_tr (K0_k h) m2, m3⟩
theorem Qd_h (hQ : Qd T FN dr M σ) (h : kr dr σ' = kr dr σ) : Qd T FN dr M σ' := Qd_k h hQ
theorem QP_t2 (t : QP T FN dr P M σ' o) (h : kr dr σ' = kr dr σ) : QP T FN dr P M σ o := QP_to h t
theorem QP_ob (h1 : Kr dr o (kr dr σ)) (hQ : Qd T FN dr M σ) (h2 : ∀ r, o = some r → kr dr r.2 = kr dr σ → Qd T FN dr M r.2 → QP T FN dr P M r.2 (f r)) : QP T FN dr P M σ (ob o f) := by
  cases o with
  | none => exact QP_no
  | some s => exact QP_to (h1 s rfl) (h2 s rfl (h1 s rfl) (Qd_k (h1 s rfl) hQ))
theorem QP_o6 (h1 : K6 dr o (k6 dr σ)) (hQ : Qd T FN dr M σ) (h2 : ∀ r, r.2.1 56 = σ.1 56 → Qd T FN dr M r.2 → QP T FN dr P M r.2 (f r)) : QP T FN dr P M σ (ob o f) := by
  cases o with
  | none => exact QP_no
  | some s =>
    have e := h1 s rfl
    have e1 : kr dr s.2 = kr dr σ := congrArg Prod.fst e
    exact QP_to e1 (h2 s (congrArg Prod.snd e) (Qd_k e1 hQ))
theorem QP_oP {P' : Nat → MS → Prop} (h1 : QP T FN dr P' M σ o) (h2 : ∀ r M', M ≤ M' → P' M' r.2 → QP T FN dr P M' r.2 (f r)) : QP T FN dr P M σ (ob o f) := by
  cases o with
  | none => exact QP_no
  | some s =>
    intro r e
    obtain ⟨M', m1, m2, m3⟩ := h1 s rfl
    obtain ⟨M2, n1, n2, n3⟩ := h2 s M' m1 m3 r e
    exact ⟨M2, Nat.le_trans m1 n1, K0_tr m2 n2, n3⟩
theorem QP_oX (h1 : QP T FN dr (Qd T FN dr) M σ o) (h2 : ∀ r M', M ≤ M' → Qd T FN dr M' r.2 → QP T FN dr P M' r.2 (f r)) : QP T FN dr P M σ (ob o f) := QP_oP h1 h2
theorem QP_o9 (h1 : QP T FN dr (P9 T FN dr) M σ o) (h2 : ∀ r M', M ≤ M' → P9 T FN dr M' r.2 → QP T FN dr P M' r.2 (f r)) : QP T FN dr P M σ (ob o f) := QP_oP h1 h2
theorem QP_72 (hr : ρ = (upd σ.1 72 y, σ.2.1, σ.2.2)) (hQ : Qd T FN dr M σ) (hy : y.toNatClampNeg ≤ M) (t : Qd T FN dr M ρ → QP T FN dr P M ρ o) : QP T FN dr P M σ o := by
  subst hr
  have hQ' : Qd T FN dr M (upd σ.1 72 y, σ.2.1, σ.2.2) := ⟨hQ.1, hQ.2.1, hy, hQ.2.2.2⟩
  intro r e
  obtain ⟨M', m1, m2, m3⟩ := t hQ' r e
  exact ⟨M', m1, ⟨m2.1, m2.2⟩, m3⟩
theorem QP_it (hr : ρ = (σ.1, σ.2.1, updG σ.2.2 50 (upd (σ.2.2 50) (σ.1 72 - 1).toNatClampNeg y))) (hQ : Qd9 T FN dr M σ) (hy : qI1 T FN dr y) (h : ¬ (σ.1 72 - 1 < 0 ∨ 4000 ≤ (σ.1 72 - 1).toNatClampNeg)) (t : ∀ M', M ≤ M' → Qd T FN dr M' ρ → QP T FN dr P M' ρ o) : QP T FN dr P M σ o := by
  have e := cl_dn h
  have e2 := hQ.2.2.1
  have r50 : ρ.2.2 50 = upd (σ.2.2 50) (σ.1 72 - 1).toNatClampNeg y := by rw [hr]; rfl
  have rows : ∀ a i, 4 ≤ a → a ≤ 9 → ρ.2.2 a i = σ.2.2 a i := fun a i a4 a9 => by
    rw [hr]
    show updG σ.2.2 50 _ a i = _
    unfold updG
    rw [if_neg (by omega)]
  have r17 : ρ.2.2 17 = σ.2.2 17 := by rw [hr]; rfl
  have r72 : ρ.1 72 = σ.1 72 := by rw [hr]
  have k : K0 dr σ ρ := by rw [hr]; exact ⟨fun _ => rfl, rfl⟩
  have key : ∀ M', M ≤ M' → (σ.1 72).toNatClampNeg ≤ M' → (∀ i, i < M' → ¬ i = (σ.1 72 - 1).toNatClampNeg → i < M) → Qd T FN dr M' ρ := fun M' h1 h2 h3 => by
    refine ⟨fun a i a4 a9 hi => (rows a i a4 a9).trans (hQ.1 a i a4 a9 hi), fun fn m z => by rw [r17]; exact hQ.2.1 fn m z, by rw [r72]; exact h2, fun i hi => ?_⟩
    rw [r50]
    by_cases c : i = (σ.1 72 - 1).toNatClampNeg
    · rw [c, upd_same]; exact hy
    · rw [upd_other c]; exact hQ.2.2.2 i (h3 i hi c)
  intro r er
  by_cases c : (σ.1 72 - 1).toNatClampNeg < M
  · obtain ⟨M', m1, m2, m3⟩ := t M (Nat.le_refl _) (key M (Nat.le_refl _) (by omega) (fun i hi _ => hi)) r er
    exact ⟨M', m1, K0_tr k m2, m3⟩
  · obtain ⟨M', m1, m2, m3⟩ := t (M + 1) (by omega) (key (M + 1) (by omega) (by omega) (fun i hi z => by omega)) r er
    exact ⟨M', by omega, K0_tr k m2, m3⟩
-- what a quiet tree is made of
theorem qB_nd (h : qN T FN dr 1 x) : Nd T x := by
  obtain ⟨F, O, r, K, lc, hq, h⟩ := h
  cases F with
  | zero => exact h.elim
  | succ F =>
    unfold WN at h
    rcases h with ⟨z0, _⟩ | ⟨z0, _⟩ | ⟨_, n, a1, a2, hor⟩ | ⟨z0, _⟩ | ⟨z0, _⟩ | ⟨z0, _⟩ | ⟨z0, _⟩
    case inl => exact absurd z0 (by decide)
    case inr.inl => exact absurd z0 (by decide)
    case inr.inr.inr.inl => exact absurd z0 (by decide)
    case inr.inr.inr.inr.inl => exact absurd z0 (by decide)
    case inr.inr.inr.inr.inr.inl => exact absurd z0 (by decide)
    case inr.inr.inr.inr.inr.inr => exact absurd z0 (by decide)
    exact ⟨n, a1, a2⟩
theorem c6 (h : qN T FN dr 1 x) (z : T 4 x.toNatClampNeg = 6) : False := by
  have nd := qB_nd h
  obtain ⟨F, O, r, K, lc, hq, h⟩ := h
  cases F with
  | zero => exact h.elim
  | succ F =>
    unfold WN at h
    rcases h with ⟨z0, _⟩ | ⟨z0, _⟩ | ⟨_, n, a1, a2, hor⟩ | ⟨z0, _⟩ | ⟨z0, _⟩ | ⟨z0, _⟩ | ⟨z0, _⟩
    case inl => exact absurd z0 (by decide)
    case inr.inl => exact absurd z0 (by decide)
    case inr.inr.inr.inl => exact absurd z0 (by decide)
    case inr.inr.inr.inr.inl => exact absurd z0 (by decide)
    case inr.inr.inr.inr.inr.inl => exact absurd z0 (by decide)
    case inr.inr.inr.inr.inr.inr => exact absurd z0 (by decide)
    subst a1
    rw [cl_eq a2] at z
    rcases hor with ⟨x4, _⟩ | ⟨x4, _⟩ | (x4 | x4 | x4 | ⟨x4, z200⟩) | ⟨x4, _⟩ | ⟨x4, hO, fn, m, c, x5, hFN, hm, x8, hcO, hc, W6⟩ | ⟨x4, xr, O1, r1, lo, W6⟩ | ⟨x4, hO, m, hm, W6⟩ | ⟨x4, hO, W6, W7, W8⟩ | ⟨x4, hO, m, hm, hmK, W6, W7, W8⟩ | ⟨x4, hO, m, hm, hmK, W6, W7⟩ | ⟨x4, hO, W6⟩
    · exact absurd (x4.symm.trans z) (by decide)
    · exact absurd (x4.symm.trans z) (by decide)
    · exact absurd (x4.symm.trans z) (by decide)
    · exact absurd (x4.symm.trans z) (by decide)
    · exact absurd (x4.symm.trans z) (by decide)
    · exact hq.1 z200
    · exact absurd (x4.symm.trans z) (by decide)
    · exact absurd (x4.symm.trans z) (by decide)
    · rcases x4 with x4 | x4 | x4 | x4 | x4 <;> exact absurd (x4.symm.trans z) (by decide)
    · rcases x4 with x4 | x4 <;> exact absurd (x4.symm.trans z) (by decide)
    · exact absurd (x4.symm.trans z) (by decide)
    · exact absurd (x4.symm.trans z) (by decide)
    · exact absurd (x4.symm.trans z) (by decide)
    · exact absurd (x4.symm.trans z) (by decide)

theorem c8 (h : qN T FN dr 1 x) (z : T 4 x.toNatClampNeg = 8) : I8 T FN dr x := by
  have nd := qB_nd h
  obtain ⟨F, O, r, K, lc, hq, h⟩ := h
  cases F with
  | zero => exact h.elim
  | succ F =>
    unfold WN at h
    rcases h with ⟨z0, _⟩ | ⟨z0, _⟩ | ⟨_, n, a1, a2, hor⟩ | ⟨z0, _⟩ | ⟨z0, _⟩ | ⟨z0, _⟩ | ⟨z0, _⟩
    case inl => exact absurd z0 (by decide)
    case inr.inl => exact absurd z0 (by decide)
    case inr.inr.inr.inl => exact absurd z0 (by decide)
    case inr.inr.inr.inr.inl => exact absurd z0 (by decide)
    case inr.inr.inr.inr.inr.inl => exact absurd z0 (by decide)
    case inr.inr.inr.inr.inr.inr => exact absurd z0 (by decide)
    subst a1
    rw [cl_eq a2] at z
    rcases hor with ⟨x4, _⟩ | ⟨x4, _⟩ | (x4 | x4 | x4 | ⟨x4, z200⟩) | ⟨x4, _⟩ | ⟨x4, hO, fn, m, c, x5, hFN, hm, x8, hcO, hc, W6⟩ | ⟨x4, xr, O1, r1, lo, W6⟩ | ⟨x4, hO, m, hm, W6⟩ | ⟨x4, hO, W6, W7, W8⟩ | ⟨x4, hO, m, hm, hmK, W6, W7, W8⟩ | ⟨x4, hO, m, hm, hmK, W6, W7⟩ | ⟨x4, hO, W6⟩
    · exact absurd (x4.symm.trans z) (by decide)
    · exact absurd (x4.symm.trans z) (by decide)
    · exact absurd (x4.symm.trans z) (by decide)
    · exact absurd (x4.symm.trans z) (by decide)
    · exact absurd (x4.symm.trans z) (by decide)
    · exact absurd (x4.symm.trans z) (by decide)
    · exact absurd (x4.symm.trans z) (by decide)
    · refine ⟨nd, ?_, ?_⟩ <;> rw [cl_eq a2]
      · exact ⟨fn, m, x5, hFN⟩
      · exact ⟨_, _, _, _, lc, hq, W6⟩
    · rcases x4 with x4 | x4 | x4 | x4 | x4 <;> exact absurd (x4.symm.trans z) (by decide)
    · rcases x4 with x4 | x4 <;> exact absurd (x4.symm.trans z) (by decide)
    · exact absurd (x4.symm.trans z) (by decide)
    · exact absurd (x4.symm.trans z) (by decide)
    · exact absurd (x4.symm.trans z) (by decide)
    · exact absurd (x4.symm.trans z) (by decide)

theorem c10 (h : qN T FN dr 1 x) (z : T 4 x.toNatClampNeg = 10) : I10 T FN dr x := by
  have nd := qB_nd h
  obtain ⟨F, O, r, K, lc, hq, h⟩ := h
  cases F with
  | zero => exact h.elim
  | succ F =>
    unfold WN at h
    rcases h with ⟨z0, _⟩ | ⟨z0, _⟩ | ⟨_, n, a1, a2, hor⟩ | ⟨z0, _⟩ | ⟨z0, _⟩ | ⟨z0, _⟩ | ⟨z0, _⟩
    case inl => exact absurd z0 (by decide)
    case inr.inl => exact absurd z0 (by decide)
    case inr.inr.inr.inl => exact absurd z0 (by decide)
    case inr.inr.inr.inr.inl => exact absurd z0 (by decide)
    case inr.inr.inr.inr.inr.inl => exact absurd z0 (by decide)
    case inr.inr.inr.inr.inr.inr => exact absurd z0 (by decide)
    subst a1
    rw [cl_eq a2] at z
    rcases hor with ⟨x4, _⟩ | ⟨x4, _⟩ | (x4 | x4 | x4 | ⟨x4, z200⟩) | ⟨x4, _⟩ | ⟨x4, hO, fn, m, c, x5, hFN, hm, x8, hcO, hc, W6⟩ | ⟨x4, xr, O1, r1, lo, W6⟩ | ⟨x4, hO, m, hm, W6⟩ | ⟨x4, hO, W6, W7, W8⟩ | ⟨x4, hO, m, hm, hmK, W6, W7, W8⟩ | ⟨x4, hO, m, hm, hmK, W6, W7⟩ | ⟨x4, hO, W6⟩
    · exact absurd (x4.symm.trans z) (by decide)
    · exact absurd (x4.symm.trans z) (by decide)
    · exact absurd (x4.symm.trans z) (by decide)
    · exact absurd (x4.symm.trans z) (by decide)
    · exact absurd (x4.symm.trans z) (by decide)
    · exact absurd (x4.symm.trans z) (by decide)
    · exact absurd (x4.symm.trans z) (by decide)
    · exact absurd (x4.symm.trans z) (by decide)
    · rcases x4 with x4 | x4 | x4 | x4 | x4 <;> exact absurd (x4.symm.trans z) (by decide)
    · exact ⟨nd, by rw [cl_eq a2]; exact ⟨_, _, _, _, lc, hq, W6⟩⟩
    · exact absurd (x4.symm.trans z) (by decide)
    · exact absurd (x4.symm.trans z) (by decide)
    · exact absurd (x4.symm.trans z) (by decide)
    · exact absurd (x4.symm.trans z) (by decide)

theorem c11 (h : qN T FN dr 1 x) (z : T 4 x.toNatClampNeg = 11) : I10 T FN dr x := by
  have nd := qB_nd h
  obtain ⟨F, O, r, K, lc, hq, h⟩ := h
  cases F with
  | zero => exact h.elim
  | succ F =>
    unfold WN at h
    rcases h with ⟨z0, _⟩ | ⟨z0, _⟩ | ⟨_, n, a1, a2, hor⟩ | ⟨z0, _⟩ | ⟨z0, _⟩ | ⟨z0, _⟩ | ⟨z0, _⟩
    case inl => exact absurd z0 (by decide)
    case inr.inl => exact absurd z0 (by decide)
    case inr.inr.inr.inl => exact absurd z0 (by decide)
    case inr.inr.inr.inr.inl => exact absurd z0 (by decide)
    case inr.inr.inr.inr.inr.inl => exact absurd z0 (by decide)
    case inr.inr.inr.inr.inr.inr => exact absurd z0 (by decide)
    subst a1
    rw [cl_eq a2] at z
    rcases hor with ⟨x4, _⟩ | ⟨x4, _⟩ | (x4 | x4 | x4 | ⟨x4, z200⟩) | ⟨x4, _⟩ | ⟨x4, hO, fn, m, c, x5, hFN, hm, x8, hcO, hc, W6⟩ | ⟨x4, xr, O1, r1, lo, W6⟩ | ⟨x4, hO, m, hm, W6⟩ | ⟨x4, hO, W6, W7, W8⟩ | ⟨x4, hO, m, hm, hmK, W6, W7, W8⟩ | ⟨x4, hO, m, hm, hmK, W6, W7⟩ | ⟨x4, hO, W6⟩
    · exact absurd (x4.symm.trans z) (by decide)
    · exact absurd (x4.symm.trans z) (by decide)
    · exact absurd (x4.symm.trans z) (by decide)
    · exact absurd (x4.symm.trans z) (by decide)
    · exact absurd (x4.symm.trans z) (by decide)
    · exact absurd (x4.symm.trans z) (by decide)
    · exact absurd (x4.symm.trans z) (by decide)
    · exact absurd (x4.symm.trans z) (by decide)
    · rcases x4 with x4 | x4 | x4 | x4 | x4 <;> exact absurd (x4.symm.trans z) (by decide)
    · exact ⟨nd, by rw [cl_eq a2]; exact ⟨_, _, _, _, lc, hq, W6⟩⟩
    · exact absurd (x4.symm.trans z) (by decide)
    · exact absurd (x4.symm.trans z) (by decide)
    · exact absurd (x4.symm.trans z) (by decide)
    · exact absurd (x4.symm.trans z) (by decide)

theorem c12 (h : qN T FN dr 1 x) (z : T 4 x.toNatClampNeg = 12) : I12 T FN dr x := by
  have nd := qB_nd h
  obtain ⟨F, O, r, K, lc, hq, h⟩ := h
  cases F with
  | zero => exact h.elim
  | succ F =>
    unfold WN at h
    rcases h with ⟨z0, _⟩ | ⟨z0, _⟩ | ⟨_, n, a1, a2, hor⟩ | ⟨z0, _⟩ | ⟨z0, _⟩ | ⟨z0, _⟩ | ⟨z0, _⟩
    case inl => exact absurd z0 (by decide)
    case inr.inl => exact absurd z0 (by decide)
    case inr.inr.inr.inl => exact absurd z0 (by decide)
    case inr.inr.inr.inr.inl => exact absurd z0 (by decide)
    case inr.inr.inr.inr.inr.inl => exact absurd z0 (by decide)
    case inr.inr.inr.inr.inr.inr => exact absurd z0 (by decide)
    subst a1
    rw [cl_eq a2] at z
    rcases hor with ⟨x4, _⟩ | ⟨x4, _⟩ | (x4 | x4 | x4 | ⟨x4, z200⟩) | ⟨x4, _⟩ | ⟨x4, hO, fn, m, c, x5, hFN, hm, x8, hcO, hc, W6⟩ | ⟨x4, xr, O1, r1, lo, W6⟩ | ⟨x4, hO, m, hm, W6⟩ | ⟨x4, hO, W6, W7, W8⟩ | ⟨x4, hO, m, hm, hmK, W6, W7, W8⟩ | ⟨x4, hO, m, hm, hmK, W6, W7⟩ | ⟨x4, hO, W6⟩
    · exact absurd (x4.symm.trans z) (by decide)
    · exact absurd (x4.symm.trans z) (by decide)
    · exact absurd (x4.symm.trans z) (by decide)
    · exact absurd (x4.symm.trans z) (by decide)
    · exact absurd (x4.symm.trans z) (by decide)
    · exact absurd (x4.symm.trans z) (by decide)
    · exact absurd (x4.symm.trans z) (by decide)
    · exact absurd (x4.symm.trans z) (by decide)
    · rcases x4 with x4 | x4 | x4 | x4 | x4 <;> exact absurd (x4.symm.trans z) (by decide)
    · rcases x4 with x4 | x4 <;> exact absurd (x4.symm.trans z) (by decide)
    · refine ⟨nd, ?_, ?_, ?_⟩ <;> rw [cl_eq a2]
      · exact ⟨_, _, _, _, lc, hq, W6⟩
      · exact W7.imp id (fun W7 => ⟨_, _, _, _, lc, hq, W7⟩)
      · exact ⟨_, _, _, _, lc, hq, W8⟩
    · exact absurd (x4.symm.trans z) (by decide)
    · exact absurd (x4.symm.trans z) (by decide)
    · exact absurd (x4.symm.trans z) (by decide)

theorem c13 (h : qN T FN dr 1 x) (z : T 4 x.toNatClampNeg = 13) : I13 T FN dr x := by
  have nd := qB_nd h
  obtain ⟨F, O, r, K, lc, hq, h⟩ := h
  cases F with
  | zero => exact h.elim
  | succ F =>
    unfold WN at h
    rcases h with ⟨z0, _⟩ | ⟨z0, _⟩ | ⟨_, n, a1, a2, hor⟩ | ⟨z0, _⟩ | ⟨z0, _⟩ | ⟨z0, _⟩ | ⟨z0, _⟩
    case inl => exact absurd z0 (by decide)
    case inr.inl => exact absurd z0 (by decide)
    case inr.inr.inr.inl => exact absurd z0 (by decide)
    case inr.inr.inr.inr.inl => exact absurd z0 (by decide)
    case inr.inr.inr.inr.inr.inl => exact absurd z0 (by decide)
    case inr.inr.inr.inr.inr.inr => exact absurd z0 (by decide)
    subst a1
    rw [cl_eq a2] at z
    rcases hor with ⟨x4, _⟩ | ⟨x4, _⟩ | (x4 | x4 | x4 | ⟨x4, z200⟩) | ⟨x4, _⟩ | ⟨x4, hO, fn, m, c, x5, hFN, hm, x8, hcO, hc, W6⟩ | ⟨x4, xr, O1, r1, lo, W6⟩ | ⟨x4, hO, m, hm, W6⟩ | ⟨x4, hO, W6, W7, W8⟩ | ⟨x4, hO, m, hm, hmK, W6, W7, W8⟩ | ⟨x4, hO, m, hm, hmK, W6, W7⟩ | ⟨x4, hO, W6⟩
    · exact absurd (x4.symm.trans z) (by decide)
    · exact absurd (x4.symm.trans z) (by decide)
    · exact absurd (x4.symm.trans z) (by decide)
    · exact absurd (x4.symm.trans z) (by decide)
    · exact absurd (x4.symm.trans z) (by decide)
    · exact absurd (x4.symm.trans z) (by decide)
    · exact absurd (x4.symm.trans z) (by decide)
    · exact absurd (x4.symm.trans z) (by decide)
    · rcases x4 with x4 | x4 | x4 | x4 | x4 <;> exact absurd (x4.symm.trans z) (by decide)
    · rcases x4 with x4 | x4 <;> exact absurd (x4.symm.trans z) (by decide)
    · exact absurd (x4.symm.trans z) (by decide)
    · refine ⟨nd, ?_, ?_, ?_⟩ <;> rw [cl_eq a2]
      · exact ⟨_, _, _, _, lc, hq, W6⟩
      · exact W7.imp id (fun W7 => ⟨_, _, _, _, lc, hq, W7⟩)
      · exact ⟨_, _, _, _, lc, hq, W8⟩
    · exact absurd (x4.symm.trans z) (by decide)
    · exact absurd (x4.symm.trans z) (by decide)

theorem c14 (h : qN T FN dr 1 x) (z : T 4 x.toNatClampNeg = 14) : I14 T FN dr x := by
  have nd := qB_nd h
  obtain ⟨F, O, r, K, lc, hq, h⟩ := h
  cases F with
  | zero => exact h.elim
  | succ F =>
    unfold WN at h
    rcases h with ⟨z0, _⟩ | ⟨z0, _⟩ | ⟨_, n, a1, a2, hor⟩ | ⟨z0, _⟩ | ⟨z0, _⟩ | ⟨z0, _⟩ | ⟨z0, _⟩
    case inl => exact absurd z0 (by decide)
    case inr.inl => exact absurd z0 (by decide)
    case inr.inr.inr.inl => exact absurd z0 (by decide)
    case inr.inr.inr.inr.inl => exact absurd z0 (by decide)
    case inr.inr.inr.inr.inr.inl => exact absurd z0 (by decide)
    case inr.inr.inr.inr.inr.inr => exact absurd z0 (by decide)
    subst a1
    rw [cl_eq a2] at z
    rcases hor with ⟨x4, _⟩ | ⟨x4, _⟩ | (x4 | x4 | x4 | ⟨x4, z200⟩) | ⟨x4, _⟩ | ⟨x4, hO, fn, m, c, x5, hFN, hm, x8, hcO, hc, W6⟩ | ⟨x4, xr, O1, r1, lo, W6⟩ | ⟨x4, hO, m, hm, W6⟩ | ⟨x4, hO, W6, W7, W8⟩ | ⟨x4, hO, m, hm, hmK, W6, W7, W8⟩ | ⟨x4, hO, m, hm, hmK, W6, W7⟩ | ⟨x4, hO, W6⟩
    · exact absurd (x4.symm.trans z) (by decide)
    · exact absurd (x4.symm.trans z) (by decide)
    · exact absurd (x4.symm.trans z) (by decide)
    · exact absurd (x4.symm.trans z) (by decide)
    · exact absurd (x4.symm.trans z) (by decide)
    · exact absurd (x4.symm.trans z) (by decide)
    · exact absurd (x4.symm.trans z) (by decide)
    · exact absurd (x4.symm.trans z) (by decide)
    · rcases x4 with x4 | x4 | x4 | x4 | x4 <;> exact absurd (x4.symm.trans z) (by decide)
    · rcases x4 with x4 | x4 <;> exact absurd (x4.symm.trans z) (by decide)
    · exact absurd (x4.symm.trans z) (by decide)
    · exact absurd (x4.symm.trans z) (by decide)
    · refine ⟨nd, ?_, ?_⟩ <;> rw [cl_eq a2]
      · exact ⟨_, _, _, _, lc, hq, W6⟩
      · exact ⟨_, _, _, _, lc, hq, W7⟩
    · exact absurd (x4.symm.trans z) (by decide)

theorem c15 (h : qN T FN dr 1 x) (z : T 4 x.toNatClampNeg = 15) : I15 T FN dr x := by
  have nd := qB_nd h
  obtain ⟨F, O, r, K, lc, hq, h⟩ := h
  cases F with
  | zero => exact h.elim
  | succ F =>
    unfold WN at h
    rcases h with ⟨z0, _⟩ | ⟨z0, _⟩ | ⟨_, n, a1, a2, hor⟩ | ⟨z0, _⟩ | ⟨z0, _⟩ | ⟨z0, _⟩ | ⟨z0, _⟩
    case inl => exact absurd z0 (by decide)
    case inr.inl => exact absurd z0 (by decide)
    case inr.inr.inr.inl => exact absurd z0 (by decide)
    case inr.inr.inr.inr.inl => exact absurd z0 (by decide)
    case inr.inr.inr.inr.inr.inl => exact absurd z0 (by decide)
    case inr.inr.inr.inr.inr.inr => exact absurd z0 (by decide)
    subst a1
    rw [cl_eq a2] at z
    rcases hor with ⟨x4, _⟩ | ⟨x4, _⟩ | (x4 | x4 | x4 | ⟨x4, z200⟩) | ⟨x4, _⟩ | ⟨x4, hO, fn, m, c, x5, hFN, hm, x8, hcO, hc, W6⟩ | ⟨x4, xr, O1, r1, lo, W6⟩ | ⟨x4, hO, m, hm, W6⟩ | ⟨x4, hO, W6, W7, W8⟩ | ⟨x4, hO, m, hm, hmK, W6, W7, W8⟩ | ⟨x4, hO, m, hm, hmK, W6, W7⟩ | ⟨x4, hO, W6⟩
    · exact absurd (x4.symm.trans z) (by decide)
    · exact absurd (x4.symm.trans z) (by decide)
    · exact absurd (x4.symm.trans z) (by decide)
    · exact absurd (x4.symm.trans z) (by decide)
    · exact absurd (x4.symm.trans z) (by decide)
    · exact absurd (x4.symm.trans z) (by decide)
    · exact absurd (x4.symm.trans z) (by decide)
    · exact absurd (x4.symm.trans z) (by decide)
    · rcases x4 with x4 | x4 | x4 | x4 | x4 <;> exact absurd (x4.symm.trans z) (by decide)
    · rcases x4 with x4 | x4 <;> exact absurd (x4.symm.trans z) (by decide)
    · exact absurd (x4.symm.trans z) (by decide)
    · exact absurd (x4.symm.trans z) (by decide)
    · exact absurd (x4.symm.trans z) (by decide)
    · exact ⟨nd, by rw [cl_eq a2]; exact ⟨_, _, _, _, lc, hq, W6⟩⟩

theorem c9 (h : qN T FN dr 1 x) (z : T 4 x.toNatClampNeg = 9) : ID T FN dr x := by
  have nd := qB_nd h
  obtain ⟨F, O, r, K, lc, hq, h⟩ := h
  cases F with
  | zero => exact h.elim
  | succ F =>
    unfold WN at h
    rcases h with ⟨z0, _⟩ | ⟨z0, _⟩ | ⟨_, n, a1, a2, hor⟩ | ⟨z0, _⟩ | ⟨z0, _⟩ | ⟨z0, _⟩ | ⟨z0, _⟩
    case inl => exact absurd z0 (by decide)
    case inr.inl => exact absurd z0 (by decide)
    case inr.inr.inr.inl => exact absurd z0 (by decide)
    case inr.inr.inr.inr.inl => exact absurd z0 (by decide)
    case inr.inr.inr.inr.inr.inl => exact absurd z0 (by decide)
    case inr.inr.inr.inr.inr.inr => exact absurd z0 (by decide)
    subst a1
    rw [cl_eq a2] at z
    rcases hor with ⟨x4, _⟩ | ⟨x4, _⟩ | (x4 | x4 | x4 | ⟨x4, z200⟩) | ⟨x4, _⟩ | ⟨x4, hO, fn, m, c, x5, hFN, hm, x8, hcO, hc, W6⟩ | ⟨x4, xr, O1, r1, lo, W6⟩ | ⟨x4, hO, m, hm, W6⟩ | ⟨x4, hO, W6, W7, W8⟩ | ⟨x4, hO, m, hm, hmK, W6, W7, W8⟩ | ⟨x4, hO, m, hm, hmK, W6, W7⟩ | ⟨x4, hO, W6⟩
    · exact absurd (x4.symm.trans z) (by decide)
    · exact absurd (x4.symm.trans z) (by decide)
    · exact absurd (x4.symm.trans z) (by decide)
    · exact absurd (x4.symm.trans z) (by decide)
    · exact absurd (x4.symm.trans z) (by decide)
    · exact absurd (x4.symm.trans z) (by decide)
    · exact absurd (x4.symm.trans z) (by decide)
    · exact absurd (x4.symm.trans z) (by decide)
    · refine ⟨nd, ?_, ?_⟩ <;> rw [cl_eq a2]
      · exact ⟨_, _, _, _, lc, hq, W6⟩
      · exact fun y => (xr y).imp hq.2 id
    · rcases x4 with x4 | x4 <;> exact absurd (x4.symm.trans z) (by decide)
    · exact absurd (x4.symm.trans z) (by decide)
    · exact absurd (x4.symm.trans z) (by decide)
    · exact absurd (x4.symm.trans z) (by decide)
    · exact absurd (x4.symm.trans z) (by decide)

theorem cD (h : qN T FN dr 1 x) (z : ¬ T 4 x.toNatClampNeg = 1 ∧ ¬ T 4 x.toNatClampNeg = 2 ∧ ¬ T 4 x.toNatClampNeg = 3 ∧ ¬ T 4 x.toNatClampNeg = 4 ∧ ¬ T 4 x.toNatClampNeg = 5 ∧ ¬ T 4 x.toNatClampNeg = 6 ∧ ¬ T 4 x.toNatClampNeg = 7 ∧ ¬ T 4 x.toNatClampNeg = 8 ∧ ¬ T 4 x.toNatClampNeg = 9 ∧ ¬ T 4 x.toNatClampNeg = 10 ∧ ¬ T 4 x.toNatClampNeg = 11 ∧ ¬ T 4 x.toNatClampNeg = 12 ∧ ¬ T 4 x.toNatClampNeg = 13 ∧ ¬ T 4 x.toNatClampNeg = 14 ∧ ¬ T 4 x.toNatClampNeg = 15) : ID T FN dr x := by
  have nd := qB_nd h
  obtain ⟨F, O, r, K, lc, hq, h⟩ := h
  cases F with
  | zero => exact h.elim
  | succ F =>
    unfold WN at h
    rcases h with ⟨z0, _⟩ | ⟨z0, _⟩ | ⟨_, n, a1, a2, hor⟩ | ⟨z0, _⟩ | ⟨z0, _⟩ | ⟨z0, _⟩ | ⟨z0, _⟩
    case inl => exact absurd z0 (by decide)
    case inr.inl => exact absurd z0 (by decide)
    case inr.inr.inr.inl => exact absurd z0 (by decide)
    case inr.inr.inr.inr.inl => exact absurd z0 (by decide)
    case inr.inr.inr.inr.inr.inl => exact absurd z0 (by decide)
    case inr.inr.inr.inr.inr.inr => exact absurd z0 (by decide)
    subst a1
    rw [cl_eq a2] at z
    obtain ⟨n1, n2, n3, n4, n5, n6, n7, n8, n9, n10, n11, n12, n13, n14, n15⟩ := z
    rcases hor with ⟨x4, _⟩ | ⟨x4, _⟩ | (x4 | x4 | x4 | ⟨x4, z200⟩) | ⟨x4, _⟩ | ⟨x4, hO, fn, m, c, x5, hFN, hm, x8, hcO, hc, W6⟩ | ⟨x4, xr, O1, r1, lo, W6⟩ | ⟨x4, hO, m, hm, W6⟩ | ⟨x4, hO, W6, W7, W8⟩ | ⟨x4, hO, m, hm, hmK, W6, W7, W8⟩ | ⟨x4, hO, m, hm, hmK, W6, W7⟩ | ⟨x4, hO, W6⟩
    · exact absurd x4 n1
    · exact absurd x4 n2
    · exact absurd x4 n3
    · exact absurd x4 n4
    · exact absurd x4 n5
    · exact absurd x4 n6
    · exact absurd x4 n7
    · exact absurd x4 n8
    · refine ⟨nd, ?_, ?_⟩ <;> rw [cl_eq a2]
      · exact ⟨_, _, _, _, lc, hq, W6⟩
      · exact fun y => (xr y).imp hq.2 id
    · rcases x4 with x4 | x4
      · exact absurd x4 n10
      · exact absurd x4 n11
    · exact absurd x4 n12
    · exact absurd x4 n13
    · exact absurd x4 n14
    · exact absurd x4 n15

theorem qG_nd (h : qN T FN dr 2 x) : Nd T x := by
  obtain ⟨F, O, r, K, lc, hq, h⟩ := h
  cases F with
  | zero => exact h.elim
  | succ F =>
    unfold WN at h
    rcases h with ⟨z0, _⟩ | ⟨_, n, a1, a2, hor⟩ | ⟨z0, _⟩ | ⟨z0, _⟩ | ⟨z0, _⟩ | ⟨z0, _⟩ | ⟨z0, _⟩
    case inl => exact absurd z0 (by decide)
    case inr.inr.inl => exact absurd z0 (by decide)
    case inr.inr.inr.inl => exact absurd z0 (by decide)
    case inr.inr.inr.inr.inl => exact absurd z0 (by decide)
    case inr.inr.inr.inr.inr.inl => exact absurd z0 (by decide)
    case inr.inr.inr.inr.inr.inr => exact absurd z0 (by decide)
    exact ⟨n, a1, a2⟩
theorem c7 (h : qN T FN dr 2 x) (z : ¬ T 4 x.toNatClampNeg = 26) : I7 T FN dr x (T 4 x.toNatClampNeg) := by
  have nd := qG_nd h
  obtain ⟨F, O, r, K, lc, hq, h⟩ := h
  cases F with
  | zero => exact h.elim
  | succ F =>
    unfold WN at h
    rcases h with ⟨z0, _⟩ | ⟨_, n, a1, a2, hor⟩ | ⟨z0, _⟩ | ⟨z0, _⟩ | ⟨z0, _⟩ | ⟨z0, _⟩ | ⟨z0, _⟩
    case inl => exact absurd z0 (by decide)
    case inr.inr.inl => exact absurd z0 (by decide)
    case inr.inr.inr.inl => exact absurd z0 (by decide)
    case inr.inr.inr.inr.inl => exact absurd z0 (by decide)
    case inr.inr.inr.inr.inr.inl => exact absurd z0 (by decide)
    case inr.inr.inr.inr.inr.inr => exact absurd z0 (by decide)
    subst a1
    rw [cl_eq a2] at z
    rcases hor with y | ⟨_, ⟨O1, r1, lo, w⟩, w8⟩
    · exact absurd y z
    · refine ⟨nd, ?_, ?_⟩ <;> rw [cl_eq a2]
      · exact ⟨_, _, _, _, lc, hq, w⟩
      · intro y
        obtain ⟨O2, r2, lo2, w2⟩ := w8 y
        exact ⟨_, _, _, _, lc, hq, w2⟩
theorem cL (h : qN T FN dr 3 x) : x = -1 ∨ (Nd T x ∧ qN T FN dr 0 x ∧ qN T FN dr 3 (T 9 x.toNatClampNeg)) := by
  obtain ⟨F, O, r, K, lc, hq, h⟩ := h
  cases F with
  | zero => exact h.elim
  | succ F =>
    unfold WN at h
    rcases h with ⟨z0, _⟩ | ⟨z0, _⟩ | ⟨z0, _⟩ | ⟨_, hor⟩ | ⟨z0, _⟩ | ⟨z0, _⟩ | ⟨z0, _⟩
    case inl => exact absurd z0 (by decide)
    case inr.inl => exact absurd z0 (by decide)
    case inr.inr.inl => exact absurd z0 (by decide)
    case inr.inr.inr.inr.inl => exact absurd z0 (by decide)
    case inr.inr.inr.inr.inr.inl => exact absurd z0 (by decide)
    case inr.inr.inr.inr.inr.inr => exact absurd z0 (by decide)
    rcases hor with y | ⟨m, n, rm, a1, a2, w0, w9⟩
    · exact Or.inl y.2
    · subst a1
      refine Or.inr ⟨⟨n, rfl, a2⟩, ⟨_, _, _, _, lc, hq, w0⟩, ?_⟩
      rw [cl_eq a2]
      exact ⟨_, _, _, _, lc, hq, w9⟩
theorem cLc (h : qN T FN dr 3 x) (c : ¬ (x < 0 ∨ 70000 ≤ x.toNatClampNeg)) : Nd T x ∧ qN T FN dr 3 (T 9 x.toNatClampNeg) := by
  rcases cL h with y | y
  · exact absurd (Or.inl (by rw [y]; decide)) c
  · exact ⟨y.1, y.2.2⟩
theorem cI (h : qN T FN dr 4 x) : x = -1 ∨ qI1 T FN dr x := by
  obtain ⟨F, O, r, K, lc, hq, h⟩ := h
  cases F with
  | zero => exact h.elim
  | succ F =>
    unfold WN at h
    rcases h with ⟨z0, _⟩ | ⟨z0, _⟩ | ⟨z0, _⟩ | ⟨z0, _⟩ | ⟨_, hor⟩ | ⟨z0, _⟩ | ⟨z0, _⟩
    case inl => exact absurd z0 (by decide)
    case inr.inl => exact absurd z0 (by decide)
    case inr.inr.inl => exact absurd z0 (by decide)
    case inr.inr.inr.inl => exact absurd z0 (by decide)
    case inr.inr.inr.inr.inr.inl => exact absurd z0 (by decide)
    case inr.inr.inr.inr.inr.inr => exact absurd z0 (by decide)
    rcases hor with y | ⟨m, n, q, rm, a1, a2, k1, hq', w6, w7, w9⟩
    · exact Or.inl y.2
    · subst a1
      refine Or.inr ⟨⟨n, rfl, a2⟩, ?_, ?_⟩ <;> rw [cl_eq a2]
      · exact ⟨_, _, _, _, lc, hq, w7⟩
      · exact ⟨_, _, _, _, lc, hq, w9⟩
theorem cR (h : qN T FN dr 5 x) : Nd T x ∧ qN T FN dr 0 (T 6 x.toNatClampNeg) ∧ (T 5 x.toNatClampNeg = -1 ∨ (qN T FN dr 0 (T 5 x.toNatClampNeg) ∧ qN T FN dr 5 (T 9 x.toNatClampNeg))) := by
  obtain ⟨F, O, r, K, lc, hq, h⟩ := h
  cases F with
  | zero => exact h.elim
  | succ F =>
    unfold WN at h
    rcases h with ⟨z0, _⟩ | ⟨z0, _⟩ | ⟨z0, _⟩ | ⟨z0, _⟩ | ⟨z0, _⟩ | ⟨_, n, a1, a2, a3, hor⟩ | ⟨z0, _⟩
    case inl => exact absurd z0 (by decide)
    case inr.inl => exact absurd z0 (by decide)
    case inr.inr.inl => exact absurd z0 (by decide)
    case inr.inr.inr.inl => exact absurd z0 (by decide)
    case inr.inr.inr.inr.inl => exact absurd z0 (by decide)
    case inr.inr.inr.inr.inr.inr => exact absurd z0 (by decide)
    subst a1
    refine ⟨⟨n, rfl, a2⟩, ?_, ?_⟩ <;> rw [cl_eq a2]
    · exact ⟨_, _, _, _, lc, hq, a3⟩
    · exact hor.imp id (fun y => ⟨⟨_, _, _, _, lc, hq, y.1⟩, ⟨_, _, _, _, lc, hq, y.2⟩⟩)
theorem cE (h : qN T FN dr 0 x) : Chq T FN dr x x := by
  obtain ⟨F, O, r, K, lc, hq, h⟩ := h
  cases F with
  | zero => exact h.elim
  | succ F =>
    unfold WN at h
    rcases h with ⟨_, h4, n, k, ch, a1, a2, a3, a4, a5, a6, a7⟩ | ⟨z0, _⟩ | ⟨z0, _⟩ | ⟨z0, _⟩ | ⟨z0, _⟩ | ⟨z0, _⟩ | ⟨z0, _⟩
    case inr.inl => exact absurd z0 (by decide)
    case inr.inr.inl => exact absurd z0 (by decide)
    case inr.inr.inr.inl => exact absurd z0 (by decide)
    case inr.inr.inr.inr.inl => exact absurd z0 (by decide)
    case inr.inr.inr.inr.inr.inl => exact absurd z0 (by decide)
    case inr.inr.inr.inr.inr.inr => exact absurd z0 (by decide)
    exact ⟨k, ch, k, by rw [a1, a2], by rw [a1, a2], Nat.le_refl _, a3, a4, a5, fun i p1 p2 => ⟨(a6 i p1 p2).1, ⟨_, _, _, _, lc, hq, (a6 i p1 p2).2⟩⟩, ⟨_, _, _, _, lc, hq, a7⟩⟩
theorem cF (hQ : Qd T FN dr M σ) (h : Fq FN y) : qN T FN dr 0 (σ.2.2 17 y.toNatClampNeg) := by
  obtain ⟨fn, m, rfl, h⟩ := h
  have := hQ.2.1 fn m h
  rw [n_cl (p := fn) (by omega)]
  exact this.2
theorem Ch_nd (h : Chq T FN dr x y) : Nd T y := by
  obtain ⟨k, ch, i, e1, e2, hi, c⟩ := h
  exact ⟨ch i, e2, c.1 i hi⟩
theorem Ch_0 (h : Chq T FN dr x y) (z : ¬ Ov (T 4 y.toNatClampNeg)) : Ch0 T FN dr x y := by
  obtain ⟨k, ch, i, e1, e2, hi, c⟩ := h
  have hl := c.1 i hi
  rw [e2, cl_eq hl] at z
  have i0 : i = 0 := by
    by_cases c0 : i = 0
    · exact c0
    · exact absurd (c.2.2.2.1 i (by omega) hi).1 z
  subst i0
  exact ⟨k, ch, e1, e2, c⟩
theorem Ch_dn (h : Chq T FN dr x y) (z : Ov (T 4 y.toNatClampNeg)) : Chq T FN dr x (T 6 y.toNatClampNeg) := by
  obtain ⟨k, ch, i, e1, e2, hi, c⟩ := h
  have hl := c.1 i hi
  rw [e2, cl_eq hl] at z
  rw [e2, cl_eq hl]
  cases i with
  | zero => exact absurd z c.2.2.1
  | succ i => exact ⟨k, ch, i, e1, (c.2.1 i (by omega)).1, by omega, c⟩
theorem Ch0_b (h : Ch0 T FN dr x y) : qN T FN dr 1 y := by
  obtain ⟨k, ch, e1, e2, c⟩ := h
  rw [e2]; exact c.2.2.2.2
theorem Ch0_c (h : Ch0 T FN dr x y) : Chq T FN dr x y := by
  obtain ⟨k, ch, e1, e2, c⟩ := h
  exact ⟨k, ch, 0, e1, e2, Nat.zero_le _, c⟩
theorem Ch_up (h : Chq T FN dr x y) (z : ¬ y = x) : qN T FN dr 2 (T 9 y.toNatClampNeg) ∧ Chq T FN dr x (T 9 y.toNatClampNeg) := by
  obtain ⟨k, ch, i, e1, e2, hi, c⟩ := h
  have hl := c.1 i hi
  have hk : i < k := by
    by_cases c0 : i = k
    · exact absurd (by rw [e1, e2, c0]) z
    · omega
  rw [e2, cl_eq hl, (c.2.1 i hk).2]
  exact ⟨(c.2.2.2.1 (i + 1) (by omega) (by omega)).2, k, ch, i + 1, e1, rfl, by omega, c⟩
theorem isov {k : Nat} {L : Nat → Int32} {r : Int32 × MS} (h : x_isOver k 0 L σ = some r) : Ov (L 0) ↔ ¬ r.1 = 0 := by
  have := Tm_at (s_isOver (σ := σ) L) (fun k => f_isOver k 0 L σ) h
  rcases this.2 with ⟨z, y⟩ | ⟨z, y⟩
  · rw [y]; exact ⟨fun _ => by decide, fun _ => z⟩
  · rw [y]; exact ⟨fun w => absurd w z, fun w => absurd rfl w⟩
end QVD

def Iv0 (T : Nat → Nat → Int32) (FN : Nat → Nat → Prop) (dr : Bool) (b : Nat) (L : Nat → Int32) (M : Nat) (σ : MS) : Prop := if b ≤ 1 then Qd T FN dr M σ ∧ (qN T FN dr 1 (L 1)) else if b ≤ 6 then Qd T FN dr M σ ∧ (True) else if b ≤ 7 then Qd T FN dr M σ ∧ (False) else if b ≤ 8 then Qd T FN dr M σ ∧ (True) else if b ≤ 9 then Qd T FN dr M σ ∧ (I8 T FN dr (L 1)) else if b ≤ 11 then Qd T FN dr M σ ∧ (I10 T FN dr (L 1)) else if b ≤ 12 then Qd T FN dr M σ ∧ (I13 T FN dr (L 1)) else if b ≤ 13 then Qd T FN dr M σ ∧ (I14 T FN dr (L 1)) else if b ≤ 14 then Qd T FN dr M σ ∧ (I15 T FN dr (L 1)) else if b ≤ 15 then Qd T FN dr M σ ∧ (I12 T FN dr (L 1)) else if b ≤ 16 then Qd T FN dr M σ ∧ (ID T FN dr (L 1)) else if b ≤ 17 then Qd T FN dr M σ ∧ (True) else False
def Iv1 (T : Nat → Nat → Int32) (FN : Nat → Nat → Prop) (dr : Bool) (b : Nat) (L : Nat → Int32) (M : Nat) (σ : MS) : Prop := if b ≤ 6 then Qd T FN dr M σ ∧ (I12 T FN dr (L 1)) else if b ≤ 7 then Qd T FN dr M σ ∧ (True) else False
def Iv2 (T : Nat → Nat → Int32) (FN : Nat → Nat → Prop) (dr : Bool) (b : Nat) (L : Nat → Int32) (M : Nat) (σ : MS) : Prop := if b ≤ 0 then Qd T FN dr M σ ∧ (I8 T FN dr (L 1)) else if b ≤ 1 then Qd T FN dr M σ ∧ (I8 T FN dr (L 1) ∧ qN T FN dr 3 (L 3)) else if b ≤ 5 then Qd T FN dr M σ ∧ (I8 T FN dr (L 1)) else if b ≤ 15 then Qd T FN dr M σ ∧ (Fq FN (L 3)) else if b ≤ 23 then Qd T FN dr M σ ∧ (True) else False
def Iv3 (T : Nat → Nat → Int32) (FN : Nat → Nat → Prop) (dr : Bool) (b : Nat) (L : Nat → Int32) (M : Nat) (σ : MS) : Prop := if b ≤ 0 then Qd T FN dr M σ ∧ (I15 T FN dr (L 1)) else if b ≤ 2 then Qd T FN dr M σ ∧ (qN T FN dr 5 (L 2)) else if b ≤ 3 then Qd T FN dr M σ ∧ (qN T FN dr 5 (L 2) ∧ ¬ T 5 (L 2).toNatClampNeg = -1) else if b ≤ 4 then Qd T FN dr M σ ∧ (qN T FN dr 5 (L 2)) else if b ≤ 5 then Qd T FN dr M σ ∧ (True) else False
def Iv4 (T : Nat → Nat → Int32) (FN : Nat → Nat → Prop) (dr : Bool) (b : Nat) (L : Nat → Int32) (M : Nat) (σ : MS) : Prop := if b ≤ 0 then Qd T FN dr M σ ∧ (qN T FN dr 0 (L 1)) else if b ≤ 1 then Qd T FN dr M σ ∧ (Chq T FN dr (L 1) (L 2)) else if b ≤ 2 then Qd T FN dr M σ ∧ (Ch0 T FN dr (L 1) (L 2)) else if b ≤ 3 then Qd T FN dr M σ ∧ (Chq T FN dr (L 1) (L 2)) else if b ≤ 4 then Qd T FN dr M σ ∧ (True) else False
def Iv5 (T : Nat → Nat → Int32) (FN : Nat → Nat → Prop) (dr : Bool) (b : Nat) (L : Nat → Int32) (M : Nat) (σ : MS) : Prop := if b ≤ 0 then Qd T FN dr M σ ∧ (I13 T FN dr (L 1)) else if b ≤ 6 then Qd T FN dr M σ ∧ (I13 T FN dr (L 1) ∧ (L 3).toNatClampNeg ≤ M) else if b ≤ 10 then Qd T FN dr M σ ∧ (True) else False
def Iv6 (T : Nat → Nat → Int32) (FN : Nat → Nat → Prop) (dr : Bool) (b : Nat) (L : Nat → Int32) (M : Nat) (σ : MS) : Prop := if b ≤ 2 then Qd T FN dr M σ ∧ (qN T FN dr 4 (L 2)) else if b ≤ 3 then Qd T FN dr M σ ∧ (qN T FN dr 4 (L 2) ∧ qN T FN dr 4 (L 100)) else if b ≤ 4 then Qd T FN dr M σ ∧ (qN T FN dr 4 (L 2) ∧ qI1 T FN dr (L 5)) else if b ≤ 5 then Qd9 T FN dr M σ ∧ (qN T FN dr 4 (L 2) ∧ qI1 T FN dr (L 5)) else if b ≤ 8 then Qd T FN dr M σ ∧ (qN T FN dr 4 (L 2)) else if b ≤ 9 then Qd T FN dr M σ ∧ (True) else False
def Iv7 (T : Nat → Nat → Int32) (FN : Nat → Nat → Prop) (dr : Bool) (b : Nat) (L : Nat → Int32) (M : Nat) (σ : MS) : Prop := if b ≤ 0 then Qd T FN dr M σ ∧ (qN T FN dr 2 (L 1)) else if b ≤ 8 then Qd T FN dr M σ ∧ (I7 T FN dr (L 1) (L 2)) else if b ≤ 18 then Qd T FN dr M σ ∧ (True) else False
def Iv8 (T : Nat → Nat → Int32) (FN : Nat → Nat → Prop) (dr : Bool) (b : Nat) (L : Nat → Int32) (M : Nat) (σ : MS) : Prop := if b ≤ 0 then Qd T FN dr M σ ∧ (qN T FN dr 0 (L 1)) else if b ≤ 2 then Qd T FN dr M σ ∧ (True) else False
def Iv9 (T : Nat → Nat → Int32) (FN : Nat → Nat → Prop) (dr : Bool) (b : Nat) (L : Nat → Int32) (M : Nat) (σ : MS) : Prop := if b ≤ 0 then Qd T FN dr M σ ∧ (I9 T FN dr (L 1)) else if b ≤ 3 then Qd T FN dr M σ ∧ (σ.1 56 ≤ 0) else if b ≤ 4 then Qd T FN dr M σ ∧ (σ.1 56 ≤ 0 ∧ ¬ (σ.1 72 < 0 ∨ 4000 ≤ (σ.1 72).toNatClampNeg)) else False
def Iv10 (T : Nat → Nat → Int32) (FN : Nat → Nat → Prop) (dr : Bool) (b : Nat) (L : Nat → Int32) (M : Nat) (σ : MS) : Prop := if b ≤ 0 then Qd T FN dr M σ ∧ (I14 T FN dr (L 1)) else if b ≤ 8 then Qd T FN dr M σ ∧ (I14 T FN dr (L 1) ∧ (L 2).toNatClampNeg ≤ M) else if b ≤ 12 then Qd T FN dr M σ ∧ (True) else False
def Iv11 (T : Nat → Nat → Int32) (FN : Nat → Nat → Prop) (dr : Bool) (b : Nat) (L : Nat → Int32) (M : Nat) (σ : MS) : Prop := if b ≤ 0 then Qd T FN dr M σ ∧ (I10 T FN dr (L 1)) else if b ≤ 14 then Qd T FN dr M σ ∧ (qN T FN dr 3 (L 5)) else if b ≤ 18 then Qd T FN dr M σ ∧ (True) else False
def Iv12 (T : Nat → Nat → Int32) (FN : Nat → Nat → Prop) (dr : Bool) (b : Nat) (L : Nat → Int32) (M : Nat) (σ : MS) : Prop := if b ≤ 0 then Qd T FN dr M σ ∧ (I10 T FN dr (L 1)) else if b ≤ 10 then Qd T FN dr M σ ∧ (qN T FN dr 3 (L 5)) else if b ≤ 13 then Qd T FN dr M σ ∧ (True) else False
def Iv (T : Nat → Nat → Int32) (FN : Nat → Nat → Prop) (dr : Bool) (m b : Nat) (L : Nat → Int32) (M : Nat) (σ : MS) : Prop := if m = 0 then Iv0 T FN dr b L M σ else if m = 1 then Iv1 T FN dr b L M σ else if m = 2 then Iv2 T FN dr b L M σ else if m = 3 then Iv3 T FN dr b L M σ else if m = 4 then Iv4 T FN dr b L M σ else if m = 5 then Iv5 T FN dr b L M σ else if m = 6 then Iv6 T FN dr b L M σ else if m = 7 then Iv7 T FN dr b L M σ else if m = 8 then Iv8 T FN dr b L M σ else if m = 9 then Iv9 T FN dr b L M σ else if m = 10 then Iv10 T FN dr b L M σ else if m = 11 then Iv11 T FN dr b L M σ else if m = 12 then Iv12 T FN dr b L M σ else False
section QVM
variable {T : Nat → Nat → Int32} {FN : Nat → Nat → Prop} {dr : Bool}
theorem qv_0_0 {X : Nat → Nat → Nat → (Nat → Int32) → MS → Option (Int32 × MS)} (hX : ∀ e m b L (σ : MS) M, m ≠ 9 → Iv T FN dr m b L M σ → QP T FN dr (Qd T FN dr) M σ (X e m b L σ)) (h9 : ∀ e b L (σ : MS) M, Iv T FN dr 9 b L M σ → QP T FN dr (P9 T FN dr) M σ (X e 9 b L σ)) {K d M : Nat} {L : Nat → Int32} {σ : MS} (hJ : Iv T FN dr 0 0 L M σ) : QP T FN dr (Qd T FN dr) M σ (s_begins X K d 0 L σ) := by
  obtain ⟨hQ, hI⟩ := (show Qd T FN dr M σ ∧ (qN T FN dr 1 (L 1)) from hJ)
  refine QP_ite (fun u1 => ?_) (fun u1 => ?_)
  · skip
    exact QP_t2 (hX _ 0 1 _ _ _ (by decide) ⟨Qd_h hQ rfl, (show qN T FN dr 1 (L 1) from hI)⟩) rfl
  · skip
    exact QP_some (Qd_k rfl hQ) (K0_k rfl)
theorem qv_0_1 {X : Nat → Nat → Nat → (Nat → Int32) → MS → Option (Int32 × MS)} (hX : ∀ e m b L (σ : MS) M, m ≠ 9 → Iv T FN dr m b L M σ → QP T FN dr (Qd T FN dr) M σ (X e m b L σ)) (h9 : ∀ e b L (σ : MS) M, Iv T FN dr 9 b L M σ → QP T FN dr (P9 T FN dr) M σ (X e 9 b L σ)) {K d M : Nat} {L : Nat → Int32} {σ : MS} (hJ : Iv T FN dr 0 1 L M σ) : QP T FN dr (Qd T FN dr) M σ (s_begins X K d 1 L σ) := by
  obtain ⟨hQ, hI⟩ := (show Qd T FN dr M σ ∧ (qN T FN dr 1 (L 1)) from hJ)
  refine QP_chk (fun u1 => ?_)
  refine QP_ite (fun u2 => ?_) (fun u2 => ?_)
  · skip
    exact QP_t2 (hX _ 0 2 _ _ _ (by decide) ⟨Qd_h hQ rfl, (show True from trivial)⟩) rfl
  · skip
    refine QP_ite (fun u3 => ?_) (fun u3 => ?_)
    · skip
      exact QP_t2 (hX _ 0 3 _ _ _ (by decide) ⟨Qd_h hQ rfl, (show True from trivial)⟩) rfl
    · skip
      refine QP_ite (fun u4 => ?_) (fun u4 => ?_)
      · skip
        exact QP_t2 (hX _ 0 4 _ _ _ (by decide) ⟨Qd_h hQ rfl, (show True from trivial)⟩) rfl
      · skip
        refine QP_ite (fun u5 => ?_) (fun u5 => ?_)
        · skip
          exact QP_t2 (hX _ 0 5 _ _ _ (by decide) ⟨Qd_h hQ rfl, (show True from trivial)⟩) rfl
        · skip
          refine QP_ite (fun u6 => ?_) (fun u6 => ?_)
          · skip
            exact QP_t2 (hX _ 0 6 _ _ _ (by decide) ⟨Qd_h hQ rfl, (show True from trivial)⟩) rfl
          · skip
            refine QP_ite (fun u7 => ?_) (fun u7 => ?_)
            · skip
              exact QP_t2 (hX _ 0 7 _ _ _ (by decide) ⟨Qd_h hQ rfl, (show False from c6 hI (by rw [← rd hQ (qB_nd hI) 4 (by decide) (by decide)]; exact u7))⟩) rfl
            · skip
              refine QP_ite (fun u8 => ?_) (fun u8 => ?_)
              · skip
                exact QP_t2 (hX _ 0 8 _ _ _ (by decide) ⟨Qd_h hQ rfl, (show True from trivial)⟩) rfl
              · skip
                refine QP_ite (fun u9 => ?_) (fun u9 => ?_)
                · skip
                  exact QP_t2 (hX _ 0 9 _ _ _ (by decide) ⟨Qd_h hQ rfl, (show I8 T FN dr (L 1) from c8 hI (by rw [← rd hQ (qB_nd hI) 4 (by decide) (by decide)]; exact u9))⟩) rfl
                · skip
                  refine QP_ite (fun u10 => ?_) (fun u10 => ?_)
                  · skip
                    exact QP_t2 (hX _ 0 16 _ _ _ (by decide) ⟨Qd_h hQ rfl, (show ID T FN dr (L 1) from c9 hI (by rw [← rd hQ (qB_nd hI) 4 (by decide) (by decide)]; exact u10))⟩) rfl
                  · skip
                    refine QP_ite (fun u11 => ?_) (fun u11 => ?_)
                    · skip
                      exact QP_t2 (hX _ 0 10 _ _ _ (by decide) ⟨Qd_h hQ rfl, (show I10 T FN dr (L 1) from c10 hI (by rw [← rd hQ (qB_nd hI) 4 (by decide) (by decide)]; exact u11))⟩) rfl
                    · skip
                      refine QP_ite (fun u12 => ?_) (fun u12 => ?_)
                      · skip
                        exact QP_t2 (hX _ 0 11 _ _ _ (by decide) ⟨Qd_h hQ rfl, (show I10 T FN dr (L 1) from c11 hI (by rw [← rd hQ (qB_nd hI) 4 (by decide) (by decide)]; exact u12))⟩) rfl
                      · skip
                        refine QP_ite (fun u13 => ?_) (fun u13 => ?_)
                        · skip
                          exact QP_t2 (hX _ 0 15 _ _ _ (by decide) ⟨Qd_h hQ rfl, (show I12 T FN dr (L 1) from c12 hI (by rw [← rd hQ (qB_nd hI) 4 (by decide) (by decide)]; exact u13))⟩) rfl
                        · skip
                          refine QP_ite (fun u14 => ?_) (fun u14 => ?_)
                          · skip
                            exact QP_t2 (hX _ 0 12 _ _ _ (by decide) ⟨Qd_h hQ rfl, (show I13 T FN dr (L 1) from c13 hI (by rw [← rd hQ (qB_nd hI) 4 (by decide) (by decide)]; exact u14))⟩) rfl
                          · skip
                            refine QP_ite (fun u15 => ?_) (fun u15 => ?_)
                            · skip
                              exact QP_t2 (hX _ 0 13 _ _ _ (by decide) ⟨Qd_h hQ rfl, (show I14 T FN dr (L 1) from c14 hI (by rw [← rd hQ (qB_nd hI) 4 (by decide) (by decide)]; exact u15))⟩) rfl
                            · skip
                              refine QP_ite (fun u16 => ?_) (fun u16 => ?_)
                              · skip
                                exact QP_t2 (hX _ 0 14 _ _ _ (by decide) ⟨Qd_h hQ rfl, (show I15 T FN dr (L 1) from c15 hI (by rw [← rd hQ (qB_nd hI) 4 (by decide) (by decide)]; exact u16))⟩) rfl
                              · skip
                                exact QP_t2 (hX _ 0 16 _ _ _ (by decide) ⟨Qd_h hQ rfl, (show ID T FN dr (L 1) from cD hI (by rw [← rd hQ (qB_nd hI) 4 (by decide) (by decide)]; exact ⟨u2, u3, u4, u5, u6, u7, u8, u9, u10, u11, u12, u13, u14, u15, u16⟩))⟩) rfl
theorem qv_0_2 {X : Nat → Nat → Nat → (Nat → Int32) → MS → Option (Int32 × MS)} (hX : ∀ e m b L (σ : MS) M, m ≠ 9 → Iv T FN dr m b L M σ → QP T FN dr (Qd T FN dr) M σ (X e m b L σ)) (h9 : ∀ e b L (σ : MS) M, Iv T FN dr 9 b L M σ → QP T FN dr (P9 T FN dr) M σ (X e 9 b L σ)) {K d M : Nat} {L : Nat → Int32} {σ : MS} (hJ : Iv T FN dr 0 2 L M σ) : QP T FN dr (Qd T FN dr) M σ (s_begins X K d 2 L σ) := by
  obtain ⟨hQ, hI⟩ := (show Qd T FN dr M σ ∧ (True) from hJ)
  refine QP_ob (kr_sweep _ _ _ _) hQ (fun r1 er1 kr1 hQr1 => ?_)
  refine QP_chk (fun u1 => ?_)
  refine QP_chk (fun u2 => ?_)
  refine QP_ob (kr_literal _ _ _ _) hQr1 (fun r4 er4 kr4 hQr4 => ?_)
  refine QP_ob (kr_answer _ _ _ _) hQr4 (fun r5 er5 kr5 hQr5 => ?_)
  refine QP_ob (kr_push _ _ _ _) hQr5 (fun r6 er6 kr6 hQr6 => ?_)
  exact QP_some (Qd_k rfl hQr6) (K0_k rfl)
theorem qv_0_3 {X : Nat → Nat → Nat → (Nat → Int32) → MS → Option (Int32 × MS)} (hX : ∀ e m b L (σ : MS) M, m ≠ 9 → Iv T FN dr m b L M σ → QP T FN dr (Qd T FN dr) M σ (X e m b L σ)) (h9 : ∀ e b L (σ : MS) M, Iv T FN dr 9 b L M σ → QP T FN dr (P9 T FN dr) M σ (X e 9 b L σ)) {K d M : Nat} {L : Nat → Int32} {σ : MS} (hJ : Iv T FN dr 0 3 L M σ) : QP T FN dr (Qd T FN dr) M σ (s_begins X K d 3 L σ) := by
  obtain ⟨hQ, hI⟩ := (show Qd T FN dr M σ ∧ (True) from hJ)
  refine QP_ob (kr_sweep _ _ _ _) hQ (fun r1 er1 kr1 hQr1 => ?_)
  refine QP_chk (fun u1 => ?_)
  refine QP_chk (fun u2 => ?_)
  refine QP_ob (kr_stringOf__12 _ _ _ _) hQr1 (fun r4 er4 kr4 hQr4 => ?_)
  refine QP_ob (kr_answer _ _ _ _) hQr4 (fun r5 er5 kr5 hQr5 => ?_)
  refine QP_ob (kr_push _ _ _ _) hQr5 (fun r6 er6 kr6 hQr6 => ?_)
  exact QP_some (Qd_k rfl hQr6) (K0_k rfl)
theorem qv_0_4 {X : Nat → Nat → Nat → (Nat → Int32) → MS → Option (Int32 × MS)} (hX : ∀ e m b L (σ : MS) M, m ≠ 9 → Iv T FN dr m b L M σ → QP T FN dr (Qd T FN dr) M σ (X e m b L σ)) (h9 : ∀ e b L (σ : MS) M, Iv T FN dr 9 b L M σ → QP T FN dr (P9 T FN dr) M σ (X e 9 b L σ)) {K d M : Nat} {L : Nat → Int32} {σ : MS} (hJ : Iv T FN dr 0 4 L M σ) : QP T FN dr (Qd T FN dr) M σ (s_begins X K d 4 L σ) := by
  obtain ⟨hQ, hI⟩ := (show Qd T FN dr M σ ∧ (True) from hJ)
  refine QP_ob (kr_push _ _ _ _) hQ (fun r1 er1 kr1 hQr1 => ?_)
  exact QP_some (Qd_k rfl hQr1) (K0_k rfl)
theorem qv_0_5 {X : Nat → Nat → Nat → (Nat → Int32) → MS → Option (Int32 × MS)} (hX : ∀ e m b L (σ : MS) M, m ≠ 9 → Iv T FN dr m b L M σ → QP T FN dr (Qd T FN dr) M σ (X e m b L σ)) (h9 : ∀ e b L (σ : MS) M, Iv T FN dr 9 b L M σ → QP T FN dr (P9 T FN dr) M σ (X e 9 b L σ)) {K d M : Nat} {L : Nat → Int32} {σ : MS} (hJ : Iv T FN dr 0 5 L M σ) : QP T FN dr (Qd T FN dr) M σ (s_begins X K d 5 L σ) := by
  obtain ⟨hQ, hI⟩ := (show Qd T FN dr M σ ∧ (True) from hJ)
  refine QP_ob (kr_push _ _ _ _) hQ (fun r1 er1 kr1 hQr1 => ?_)
  exact QP_some (Qd_k rfl hQr1) (K0_k rfl)
theorem qv_0_6 {X : Nat → Nat → Nat → (Nat → Int32) → MS → Option (Int32 × MS)} (hX : ∀ e m b L (σ : MS) M, m ≠ 9 → Iv T FN dr m b L M σ → QP T FN dr (Qd T FN dr) M σ (X e m b L σ)) (h9 : ∀ e b L (σ : MS) M, Iv T FN dr 9 b L M σ → QP T FN dr (P9 T FN dr) M σ (X e 9 b L σ)) {K d M : Nat} {L : Nat → Int32} {σ : MS} (hJ : Iv T FN dr 0 6 L M σ) : QP T FN dr (Qd T FN dr) M σ (s_begins X K d 6 L σ) := by
  obtain ⟨hQ, hI⟩ := (show Qd T FN dr M σ ∧ (True) from hJ)
  refine QP_ob (kr_push _ _ _ _) hQ (fun r1 er1 kr1 hQr1 => ?_)
  exact QP_some (Qd_k rfl hQr1) (K0_k rfl)
theorem qv_0_7 {X : Nat → Nat → Nat → (Nat → Int32) → MS → Option (Int32 × MS)} (hX : ∀ e m b L (σ : MS) M, m ≠ 9 → Iv T FN dr m b L M σ → QP T FN dr (Qd T FN dr) M σ (X e m b L σ)) (h9 : ∀ e b L (σ : MS) M, Iv T FN dr 9 b L M σ → QP T FN dr (P9 T FN dr) M σ (X e 9 b L σ)) {K d M : Nat} {L : Nat → Int32} {σ : MS} (hJ : Iv T FN dr 0 7 L M σ) : QP T FN dr (Qd T FN dr) M σ (s_begins X K d 7 L σ) := absurd (show Qd T FN dr M σ ∧ False from hJ).2 id
theorem qv_0_8 {X : Nat → Nat → Nat → (Nat → Int32) → MS → Option (Int32 × MS)} (hX : ∀ e m b L (σ : MS) M, m ≠ 9 → Iv T FN dr m b L M σ → QP T FN dr (Qd T FN dr) M σ (X e m b L σ)) (h9 : ∀ e b L (σ : MS) M, Iv T FN dr 9 b L M σ → QP T FN dr (P9 T FN dr) M σ (X e 9 b L σ)) {K d M : Nat} {L : Nat → Int32} {σ : MS} (hJ : Iv T FN dr 0 8 L M σ) : QP T FN dr (Qd T FN dr) M σ (s_begins X K d 8 L σ) := by
  obtain ⟨hQ, hI⟩ := (show Qd T FN dr M σ ∧ (True) from hJ)
  refine QP_ob (kr_valueOf _ _ _ _) hQ (fun r1 er1 kr1 hQr1 => ?_)
  refine QP_ob (kr_push _ _ _ _) hQr1 (fun r2 er2 kr2 hQr2 => ?_)
  exact QP_some (Qd_k rfl hQr2) (K0_k rfl)
theorem qv_0_9 {X : Nat → Nat → Nat → (Nat → Int32) → MS → Option (Int32 × MS)} (hX : ∀ e m b L (σ : MS) M, m ≠ 9 → Iv T FN dr m b L M σ → QP T FN dr (Qd T FN dr) M σ (X e m b L σ)) (h9 : ∀ e b L (σ : MS) M, Iv T FN dr 9 b L M σ → QP T FN dr (P9 T FN dr) M σ (X e 9 b L σ)) {K d M : Nat} {L : Nat → Int32} {σ : MS} (hJ : Iv T FN dr 0 9 L M σ) : QP T FN dr (Qd T FN dr) M σ (s_begins X K d 9 L σ) := by
  obtain ⟨hQ, hI⟩ := (show Qd T FN dr M σ ∧ (I8 T FN dr (L 1)) from hJ)
  refine QP_od (fun e1 => ?_)
  refine QP_oX (hX _ 2 0 _ _ _ (by decide) ⟨hQ, (show I8 T FN dr ((L 1)) from hI)⟩) (fun r1 Mr1 hMr1 hQr1 => ?_)
  exact QP_some (Qd_k rfl hQr1) (K0_k rfl)
theorem qv_0_10 {X : Nat → Nat → Nat → (Nat → Int32) → MS → Option (Int32 × MS)} (hX : ∀ e m b L (σ : MS) M, m ≠ 9 → Iv T FN dr m b L M σ → QP T FN dr (Qd T FN dr) M σ (X e m b L σ)) (h9 : ∀ e b L (σ : MS) M, Iv T FN dr 9 b L M σ → QP T FN dr (P9 T FN dr) M σ (X e 9 b L σ)) {K d M : Nat} {L : Nat → Int32} {σ : MS} (hJ : Iv T FN dr 0 10 L M σ) : QP T FN dr (Qd T FN dr) M σ (s_begins X K d 10 L σ) := by
  obtain ⟨hQ, hI⟩ := (show Qd T FN dr M σ ∧ (I10 T FN dr (L 1)) from hJ)
  refine QP_od (fun e1 => ?_)
  refine QP_oX (hX _ 11 0 _ _ _ (by decide) ⟨hQ, (show I10 T FN dr ((L 1)) from hI)⟩) (fun r1 Mr1 hMr1 hQr1 => ?_)
  exact QP_some (Qd_k rfl hQr1) (K0_k rfl)
theorem qv_0_11 {X : Nat → Nat → Nat → (Nat → Int32) → MS → Option (Int32 × MS)} (hX : ∀ e m b L (σ : MS) M, m ≠ 9 → Iv T FN dr m b L M σ → QP T FN dr (Qd T FN dr) M σ (X e m b L σ)) (h9 : ∀ e b L (σ : MS) M, Iv T FN dr 9 b L M σ → QP T FN dr (P9 T FN dr) M σ (X e 9 b L σ)) {K d M : Nat} {L : Nat → Int32} {σ : MS} (hJ : Iv T FN dr 0 11 L M σ) : QP T FN dr (Qd T FN dr) M σ (s_begins X K d 11 L σ) := by
  obtain ⟨hQ, hI⟩ := (show Qd T FN dr M σ ∧ (I10 T FN dr (L 1)) from hJ)
  refine QP_od (fun e1 => ?_)
  refine QP_oX (hX _ 12 0 _ _ _ (by decide) ⟨hQ, (show I10 T FN dr ((L 1)) from hI)⟩) (fun r1 Mr1 hMr1 hQr1 => ?_)
  exact QP_some (Qd_k rfl hQr1) (K0_k rfl)
theorem qv_0_12 {X : Nat → Nat → Nat → (Nat → Int32) → MS → Option (Int32 × MS)} (hX : ∀ e m b L (σ : MS) M, m ≠ 9 → Iv T FN dr m b L M σ → QP T FN dr (Qd T FN dr) M σ (X e m b L σ)) (h9 : ∀ e b L (σ : MS) M, Iv T FN dr 9 b L M σ → QP T FN dr (P9 T FN dr) M σ (X e 9 b L σ)) {K d M : Nat} {L : Nat → Int32} {σ : MS} (hJ : Iv T FN dr 0 12 L M σ) : QP T FN dr (Qd T FN dr) M σ (s_begins X K d 12 L σ) := by
  obtain ⟨hQ, hI⟩ := (show Qd T FN dr M σ ∧ (I13 T FN dr (L 1)) from hJ)
  refine QP_od (fun e1 => ?_)
  refine QP_oX (hX _ 5 0 _ _ _ (by decide) ⟨hQ, (show I13 T FN dr ((L 1)) from hI)⟩) (fun r1 Mr1 hMr1 hQr1 => ?_)
  exact QP_some (Qd_k rfl hQr1) (K0_k rfl)
theorem qv_0_13 {X : Nat → Nat → Nat → (Nat → Int32) → MS → Option (Int32 × MS)} (hX : ∀ e m b L (σ : MS) M, m ≠ 9 → Iv T FN dr m b L M σ → QP T FN dr (Qd T FN dr) M σ (X e m b L σ)) (h9 : ∀ e b L (σ : MS) M, Iv T FN dr 9 b L M σ → QP T FN dr (P9 T FN dr) M σ (X e 9 b L σ)) {K d M : Nat} {L : Nat → Int32} {σ : MS} (hJ : Iv T FN dr 0 13 L M σ) : QP T FN dr (Qd T FN dr) M σ (s_begins X K d 13 L σ) := by
  obtain ⟨hQ, hI⟩ := (show Qd T FN dr M σ ∧ (I14 T FN dr (L 1)) from hJ)
  refine QP_od (fun e1 => ?_)
  refine QP_oX (hX _ 10 0 _ _ _ (by decide) ⟨hQ, (show I14 T FN dr ((L 1)) from hI)⟩) (fun r1 Mr1 hMr1 hQr1 => ?_)
  exact QP_some (Qd_k rfl hQr1) (K0_k rfl)
theorem qv_0_14 {X : Nat → Nat → Nat → (Nat → Int32) → MS → Option (Int32 × MS)} (hX : ∀ e m b L (σ : MS) M, m ≠ 9 → Iv T FN dr m b L M σ → QP T FN dr (Qd T FN dr) M σ (X e m b L σ)) (h9 : ∀ e b L (σ : MS) M, Iv T FN dr 9 b L M σ → QP T FN dr (P9 T FN dr) M σ (X e 9 b L σ)) {K d M : Nat} {L : Nat → Int32} {σ : MS} (hJ : Iv T FN dr 0 14 L M σ) : QP T FN dr (Qd T FN dr) M σ (s_begins X K d 14 L σ) := by
  obtain ⟨hQ, hI⟩ := (show Qd T FN dr M σ ∧ (I15 T FN dr (L 1)) from hJ)
  refine QP_od (fun e1 => ?_)
  refine QP_oX (hX _ 3 0 _ _ _ (by decide) ⟨hQ, (show I15 T FN dr ((L 1)) from hI)⟩) (fun r1 Mr1 hMr1 hQr1 => ?_)
  exact QP_some (Qd_k rfl hQr1) (K0_k rfl)
theorem qv_0_15 {X : Nat → Nat → Nat → (Nat → Int32) → MS → Option (Int32 × MS)} (hX : ∀ e m b L (σ : MS) M, m ≠ 9 → Iv T FN dr m b L M σ → QP T FN dr (Qd T FN dr) M σ (X e m b L σ)) (h9 : ∀ e b L (σ : MS) M, Iv T FN dr 9 b L M σ → QP T FN dr (P9 T FN dr) M σ (X e 9 b L σ)) {K d M : Nat} {L : Nat → Int32} {σ : MS} (hJ : Iv T FN dr 0 15 L M σ) : QP T FN dr (Qd T FN dr) M σ (s_begins X K d 15 L σ) := by
  obtain ⟨hQ, hI⟩ := (show Qd T FN dr M σ ∧ (I12 T FN dr (L 1)) from hJ)
  refine QP_od (fun e1 => ?_)
  refine QP_oX (hX _ 1 0 _ _ _ (by decide) ⟨hQ, (show I12 T FN dr ((L 1)) from hI)⟩) (fun r1 Mr1 hMr1 hQr1 => ?_)
  exact QP_some (Qd_k rfl hQr1) (K0_k rfl)
theorem qv_0_16 {X : Nat → Nat → Nat → (Nat → Int32) → MS → Option (Int32 × MS)} (hX : ∀ e m b L (σ : MS) M, m ≠ 9 → Iv T FN dr m b L M σ → QP T FN dr (Qd T FN dr) M σ (X e m b L σ)) (h9 : ∀ e b L (σ : MS) M, Iv T FN dr 9 b L M σ → QP T FN dr (P9 T FN dr) M σ (X e 9 b L σ)) {K d M : Nat} {L : Nat → Int32} {σ : MS} (hJ : Iv T FN dr 0 16 L M σ) : QP T FN dr (Qd T FN dr) M σ (s_begins X K d 16 L σ) := by
  obtain ⟨hQ, hI⟩ := (show Qd T FN dr M σ ∧ (ID T FN dr (L 1)) from hJ)
  refine QP_chk (fun u1 => ?_)
  refine QP_od (fun e2 => ?_)
  refine QP_oX (hX _ 4 0 _ _ _ (by decide) ⟨hQ, (show qN T FN dr 0 ((σ.2.2 6 ((L 1)).toNatClampNeg)) from by rw [rd hQ (hI.1) 6 (by decide) (by decide)]; exact hI.2.1)⟩) (fun r2 Mr2 hMr2 hQr2 => ?_)
  refine QP_ite (fun u2 => ?_) (fun u2 => ?_)
  · skip
    refine QP_ob (kr_sweep _ _ _ _) hQr2 (fun r4 er4 kr4 hQr4 => ?_)
    refine QP_ob (kr_pop _ _ _ _) hQr4 (fun r5 er5 kr5 hQr5 => ?_)
    refine QP_ob (kr_single _ _ _ (show r5.2.2.2 4 (L 1).toNatClampNeg = 9 → dr = true ∨ Fok (r5.2.2.2 5 (L 1).toNatClampNeg) from by rw [rd hQr5 hI.1 4 (by decide) (by decide), rd hQr5 hI.1 5 (by decide) (by decide)]; exact hI.2.2)) hQr5 (fun r6 er6 kr6 hQr6 => ?_)
    refine QP_ob (kr_answer _ _ _ _) hQr6 (fun r7 er7 kr7 hQr7 => ?_)
    refine QP_ob (kr_push _ _ _ _) hQr7 (fun r8 er8 kr8 hQr8 => ?_)
    exact QP_t2 (hX _ 0 17 _ _ _ (by decide) ⟨Qd_h hQr8 rfl, (show True from trivial)⟩) rfl
  · skip
    exact QP_t2 (hX _ 0 17 _ _ _ (by decide) ⟨Qd_h hQr2 rfl, (show True from trivial)⟩) rfl
theorem qv_0_17 {X : Nat → Nat → Nat → (Nat → Int32) → MS → Option (Int32 × MS)} (hX : ∀ e m b L (σ : MS) M, m ≠ 9 → Iv T FN dr m b L M σ → QP T FN dr (Qd T FN dr) M σ (X e m b L σ)) (h9 : ∀ e b L (σ : MS) M, Iv T FN dr 9 b L M σ → QP T FN dr (P9 T FN dr) M σ (X e 9 b L σ)) {K d M : Nat} {L : Nat → Int32} {σ : MS} (hJ : Iv T FN dr 0 17 L M σ) : QP T FN dr (Qd T FN dr) M σ (s_begins X K d 17 L σ) := by
  obtain ⟨hQ, hI⟩ := (show Qd T FN dr M σ ∧ (True) from hJ)
  exact QP_some (Qd_k rfl hQ) (K0_k rfl)
theorem qv_0 {X : Nat → Nat → Nat → (Nat → Int32) → MS → Option (Int32 × MS)} (hX : ∀ e m b L (σ : MS) M, m ≠ 9 → Iv T FN dr m b L M σ → QP T FN dr (Qd T FN dr) M σ (X e m b L σ)) (h9 : ∀ e b L (σ : MS) M, Iv T FN dr 9 b L M σ → QP T FN dr (P9 T FN dr) M σ (X e 9 b L σ)) {K d M b : Nat} {L : Nat → Int32} {σ : MS} (hJ : Iv T FN dr 0 b L M σ) : QP T FN dr (Qd T FN dr) M σ (s_begins X K d b L σ) := by
  match b, hJ with
  | 0, hJ => exact qv_0_0 hX h9 hJ
  | 1, hJ => exact qv_0_1 hX h9 hJ
  | 2, hJ => exact qv_0_2 hX h9 hJ
  | 3, hJ => exact qv_0_3 hX h9 hJ
  | 4, hJ => exact qv_0_4 hX h9 hJ
  | 5, hJ => exact qv_0_5 hX h9 hJ
  | 6, hJ => exact qv_0_6 hX h9 hJ
  | 7, hJ => exact qv_0_7 hX h9 hJ
  | 8, hJ => exact qv_0_8 hX h9 hJ
  | 9, hJ => exact qv_0_9 hX h9 hJ
  | 10, hJ => exact qv_0_10 hX h9 hJ
  | 11, hJ => exact qv_0_11 hX h9 hJ
  | 12, hJ => exact qv_0_12 hX h9 hJ
  | 13, hJ => exact qv_0_13 hX h9 hJ
  | 14, hJ => exact qv_0_14 hX h9 hJ
  | 15, hJ => exact qv_0_15 hX h9 hJ
  | 16, hJ => exact qv_0_16 hX h9 hJ
  | 17, hJ => exact qv_0_17 hX h9 hJ
  | b + 18, _ => exact QP_no
theorem qv_1_0 {X : Nat → Nat → Nat → (Nat → Int32) → MS → Option (Int32 × MS)} (hX : ∀ e m b L (σ : MS) M, m ≠ 9 → Iv T FN dr m b L M σ → QP T FN dr (Qd T FN dr) M σ (X e m b L σ)) (h9 : ∀ e b L (σ : MS) M, Iv T FN dr 9 b L M σ → QP T FN dr (P9 T FN dr) M σ (X e 9 b L σ)) {K d M : Nat} {L : Nat → Int32} {σ : MS} (hJ : Iv T FN dr 1 0 L M σ) : QP T FN dr (Qd T FN dr) M σ (s_bounds X K d 0 L σ) := by
  obtain ⟨hQ, hI⟩ := (show Qd T FN dr M σ ∧ (I12 T FN dr (L 1)) from hJ)
  refine QP_chk (fun u1 => ?_)
  refine QP_od (fun e2 => ?_)
  refine QP_oX (hX _ 4 0 _ _ _ (by decide) ⟨hQ, (show qN T FN dr 0 ((σ.2.2 6 ((L 1)).toNatClampNeg)) from by rw [rd hQ (hI.1) 6 (by decide) (by decide)]; exact hI.2.1)⟩) (fun r2 Mr2 hMr2 hQr2 => ?_)
  refine QP_chk (fun u2 => ?_)
  refine QP_ite (fun u3 => ?_) (fun u3 => ?_)
  · skip
    exact QP_t2 (hX _ 1 1 _ _ _ (by decide) ⟨Qd_h hQr2 rfl, (show I12 T FN dr (L 1) from hI)⟩) rfl
  · skip
    refine QP_ite (fun u4 => ?_) (fun u4 => ?_)
    · skip
      refine QP_chk (fun u5 => ?_)
      refine QP_od (fun e7 => ?_)
      refine QP_oX (hX _ 4 0 _ _ _ (by decide) ⟨hQr2, (show qN T FN dr 0 ((r2.2.2.2 7 ((L 1)).toNatClampNeg)) from by rw [rd hQr2 (hI.1) 7 (by decide) (by decide)]; exact hI.2.2.1.resolve_left (fun z => u3 ((rd hQr2 (hI.1) 7 (by decide) (by decide)).trans z)))⟩) (fun r7 Mr7 hMr7 hQr7 => ?_)
      exact QP_t2 (hX _ 1 1 _ _ _ (by decide) ⟨Qd_h hQr7 rfl, (show I12 T FN dr (L 1) from hI)⟩) rfl
    · skip
      exact QP_t2 (hX _ 1 1 _ _ _ (by decide) ⟨Qd_h hQr2 rfl, (show I12 T FN dr (L 1) from hI)⟩) rfl
theorem qv_1_1 {X : Nat → Nat → Nat → (Nat → Int32) → MS → Option (Int32 × MS)} (hX : ∀ e m b L (σ : MS) M, m ≠ 9 → Iv T FN dr m b L M σ → QP T FN dr (Qd T FN dr) M σ (X e m b L σ)) (h9 : ∀ e b L (σ : MS) M, Iv T FN dr 9 b L M σ → QP T FN dr (P9 T FN dr) M σ (X e 9 b L σ)) {K d M : Nat} {L : Nat → Int32} {σ : MS} (hJ : Iv T FN dr 1 1 L M σ) : QP T FN dr (Qd T FN dr) M σ (s_bounds X K d 1 L σ) := by
  obtain ⟨hQ, hI⟩ := (show Qd T FN dr M σ ∧ (I12 T FN dr (L 1)) from hJ)
  refine QP_ite (fun u1 => ?_) (fun u1 => ?_)
  · skip
    refine QP_chk (fun u2 => ?_)
    refine QP_od (fun e3 => ?_)
    refine QP_oX (hX _ 4 0 _ _ _ (by decide) ⟨hQ, (show qN T FN dr 0 ((σ.2.2 8 ((L 1)).toNatClampNeg)) from by rw [rd hQ (hI.1) 8 (by decide) (by decide)]; exact hI.2.2.2)⟩) (fun r3 Mr3 hMr3 hQr3 => ?_)
    exact QP_t2 (hX _ 1 2 _ _ _ (by decide) ⟨Qd_h hQr3 rfl, (show I12 T FN dr (L 1) from hI)⟩) rfl
  · skip
    exact QP_t2 (hX _ 1 2 _ _ _ (by decide) ⟨Qd_h hQ rfl, (show I12 T FN dr (L 1) from hI)⟩) rfl
theorem qv_1_2 {X : Nat → Nat → Nat → (Nat → Int32) → MS → Option (Int32 × MS)} (hX : ∀ e m b L (σ : MS) M, m ≠ 9 → Iv T FN dr m b L M σ → QP T FN dr (Qd T FN dr) M σ (X e m b L σ)) (h9 : ∀ e b L (σ : MS) M, Iv T FN dr 9 b L M σ → QP T FN dr (P9 T FN dr) M σ (X e 9 b L σ)) {K d M : Nat} {L : Nat → Int32} {σ : MS} (hJ : Iv T FN dr 1 2 L M σ) : QP T FN dr (Qd T FN dr) M σ (s_bounds X K d 2 L σ) := by
  obtain ⟨hQ, hI⟩ := (show Qd T FN dr M σ ∧ (I12 T FN dr (L 1)) from hJ)
  refine QP_ite (fun u1 => ?_) (fun u1 => ?_)
  · skip
    refine QP_ob (kr_sweep _ _ _ _) hQ (fun r2 er2 kr2 hQr2 => ?_)
    refine QP_chk (fun u2 => ?_)
    refine QP_ite (fun u3 => ?_) (fun u3 => ?_)
    · skip
      exact QP_t2 (hX _ 1 4 _ _ _ (by decide) ⟨Qd_h hQr2 rfl, (show I12 T FN dr (L 1) from hI)⟩) rfl
    · skip
      exact QP_t2 (hX _ 1 3 _ _ _ (by decide) ⟨Qd_h hQr2 rfl, (show I12 T FN dr (L 1) from hI)⟩) rfl
  · skip
    exact QP_t2 (hX _ 1 7 _ _ _ (by decide) ⟨Qd_h hQ rfl, (show True from trivial)⟩) rfl
theorem qv_1_3 {X : Nat → Nat → Nat → (Nat → Int32) → MS → Option (Int32 × MS)} (hX : ∀ e m b L (σ : MS) M, m ≠ 9 → Iv T FN dr m b L M σ → QP T FN dr (Qd T FN dr) M σ (X e m b L σ)) (h9 : ∀ e b L (σ : MS) M, Iv T FN dr 9 b L M σ → QP T FN dr (P9 T FN dr) M σ (X e 9 b L σ)) {K d M : Nat} {L : Nat → Int32} {σ : MS} (hJ : Iv T FN dr 1 3 L M σ) : QP T FN dr (Qd T FN dr) M σ (s_bounds X K d 3 L σ) := by
  obtain ⟨hQ, hI⟩ := (show Qd T FN dr M σ ∧ (I12 T FN dr (L 1)) from hJ)
  exact QP_t2 (hX _ 1 4 _ _ _ (by decide) ⟨Qd_h hQ rfl, (show I12 T FN dr (L 1) from hI)⟩) rfl
theorem qv_1_4 {X : Nat → Nat → Nat → (Nat → Int32) → MS → Option (Int32 × MS)} (hX : ∀ e m b L (σ : MS) M, m ≠ 9 → Iv T FN dr m b L M σ → QP T FN dr (Qd T FN dr) M σ (X e m b L σ)) (h9 : ∀ e b L (σ : MS) M, Iv T FN dr 9 b L M σ → QP T FN dr (P9 T FN dr) M σ (X e 9 b L σ)) {K d M : Nat} {L : Nat → Int32} {σ : MS} (hJ : Iv T FN dr 1 4 L M σ) : QP T FN dr (Qd T FN dr) M σ (s_bounds X K d 4 L σ) := by
  obtain ⟨hQ, hI⟩ := (show Qd T FN dr M σ ∧ (I12 T FN dr (L 1)) from hJ)
  refine QP_chk (fun u1 => ?_)
  refine QP_ite (fun u2 => ?_) (fun u2 => ?_)
  · skip
    exact QP_t2 (hX _ 1 5 _ _ _ (by decide) ⟨Qd_h hQ rfl, (show I12 T FN dr (L 1) from hI)⟩) rfl
  · skip
    exact QP_t2 (hX _ 1 6 _ _ _ (by decide) ⟨Qd_h hQ rfl, (show I12 T FN dr (L 1) from hI)⟩) rfl
theorem qv_1_5 {X : Nat → Nat → Nat → (Nat → Int32) → MS → Option (Int32 × MS)} (hX : ∀ e m b L (σ : MS) M, m ≠ 9 → Iv T FN dr m b L M σ → QP T FN dr (Qd T FN dr) M σ (X e m b L σ)) (h9 : ∀ e b L (σ : MS) M, Iv T FN dr 9 b L M σ → QP T FN dr (P9 T FN dr) M σ (X e 9 b L σ)) {K d M : Nat} {L : Nat → Int32} {σ : MS} (hJ : Iv T FN dr 1 5 L M σ) : QP T FN dr (Qd T FN dr) M σ (s_bounds X K d 5 L σ) := by
  obtain ⟨hQ, hI⟩ := (show Qd T FN dr M σ ∧ (I12 T FN dr (L 1)) from hJ)
  exact QP_t2 (hX _ 1 6 _ _ _ (by decide) ⟨Qd_h hQ rfl, (show I12 T FN dr (L 1) from hI)⟩) rfl
theorem qv_1_6 {X : Nat → Nat → Nat → (Nat → Int32) → MS → Option (Int32 × MS)} (hX : ∀ e m b L (σ : MS) M, m ≠ 9 → Iv T FN dr m b L M σ → QP T FN dr (Qd T FN dr) M σ (X e m b L σ)) (h9 : ∀ e b L (σ : MS) M, Iv T FN dr 9 b L M σ → QP T FN dr (P9 T FN dr) M σ (X e 9 b L σ)) {K d M : Nat} {L : Nat → Int32} {σ : MS} (hJ : Iv T FN dr 1 6 L M σ) : QP T FN dr (Qd T FN dr) M σ (s_bounds X K d 6 L σ) := by
  obtain ⟨hQ, hI⟩ := (show Qd T FN dr M σ ∧ (I12 T FN dr (L 1)) from hJ)
  refine QP_ob (kr_range _ _ _ _) hQ (fun r1 er1 kr1 hQr1 => ?_)
  refine QP_ob (kr_answer _ _ _ _) hQr1 (fun r2 er2 kr2 hQr2 => ?_)
  refine QP_ob (kr_push _ _ _ _) hQr2 (fun r3 er3 kr3 hQr3 => ?_)
  exact QP_t2 (hX _ 1 7 _ _ _ (by decide) ⟨Qd_h hQr3 rfl, (show True from trivial)⟩) rfl
theorem qv_1_7 {X : Nat → Nat → Nat → (Nat → Int32) → MS → Option (Int32 × MS)} (hX : ∀ e m b L (σ : MS) M, m ≠ 9 → Iv T FN dr m b L M σ → QP T FN dr (Qd T FN dr) M σ (X e m b L σ)) (h9 : ∀ e b L (σ : MS) M, Iv T FN dr 9 b L M σ → QP T FN dr (P9 T FN dr) M σ (X e 9 b L σ)) {K d M : Nat} {L : Nat → Int32} {σ : MS} (hJ : Iv T FN dr 1 7 L M σ) : QP T FN dr (Qd T FN dr) M σ (s_bounds X K d 7 L σ) := by
  obtain ⟨hQ, hI⟩ := (show Qd T FN dr M σ ∧ (True) from hJ)
  exact QP_some (Qd_k rfl hQ) (K0_k rfl)
theorem qv_1 {X : Nat → Nat → Nat → (Nat → Int32) → MS → Option (Int32 × MS)} (hX : ∀ e m b L (σ : MS) M, m ≠ 9 → Iv T FN dr m b L M σ → QP T FN dr (Qd T FN dr) M σ (X e m b L σ)) (h9 : ∀ e b L (σ : MS) M, Iv T FN dr 9 b L M σ → QP T FN dr (P9 T FN dr) M σ (X e 9 b L σ)) {K d M b : Nat} {L : Nat → Int32} {σ : MS} (hJ : Iv T FN dr 1 b L M σ) : QP T FN dr (Qd T FN dr) M σ (s_bounds X K d b L σ) := by
  match b, hJ with
  | 0, hJ => exact qv_1_0 hX h9 hJ
  | 1, hJ => exact qv_1_1 hX h9 hJ
  | 2, hJ => exact qv_1_2 hX h9 hJ
  | 3, hJ => exact qv_1_3 hX h9 hJ
  | 4, hJ => exact qv_1_4 hX h9 hJ
  | 5, hJ => exact qv_1_5 hX h9 hJ
  | 6, hJ => exact qv_1_6 hX h9 hJ
  | 7, hJ => exact qv_1_7 hX h9 hJ
  | b + 8, _ => exact QP_no
theorem qv_2_0 {X : Nat → Nat → Nat → (Nat → Int32) → MS → Option (Int32 × MS)} (hX : ∀ e m b L (σ : MS) M, m ≠ 9 → Iv T FN dr m b L M σ → QP T FN dr (Qd T FN dr) M σ (X e m b L σ)) (h9 : ∀ e b L (σ : MS) M, Iv T FN dr 9 b L M σ → QP T FN dr (P9 T FN dr) M σ (X e 9 b L σ)) {K d M : Nat} {L : Nat → Int32} {σ : MS} (hJ : Iv T FN dr 2 0 L M σ) : QP T FN dr (Qd T FN dr) M σ (s_callFunc X K d 0 L σ) := by
  obtain ⟨hQ, hI⟩ := (show Qd T FN dr M σ ∧ (I8 T FN dr (L 1)) from hJ)
  refine QP_chk (fun u1 => ?_)
  exact QP_t2 (hX _ 2 1 _ _ _ (by decide) ⟨Qd_h hQ rfl, (show I8 T FN dr (L 1) ∧ qN T FN dr 3 ((σ.2.2 6 ((L 1)).toNatClampNeg)) from ⟨hI, by rw [rd hQ (hI.1) 6 (by decide) (by decide)]; exact hI.2.2⟩)⟩) rfl
theorem qv_2_1 {X : Nat → Nat → Nat → (Nat → Int32) → MS → Option (Int32 × MS)} (hX : ∀ e m b L (σ : MS) M, m ≠ 9 → Iv T FN dr m b L M σ → QP T FN dr (Qd T FN dr) M σ (X e m b L σ)) (h9 : ∀ e b L (σ : MS) M, Iv T FN dr 9 b L M σ → QP T FN dr (P9 T FN dr) M σ (X e 9 b L σ)) {K d M : Nat} {L : Nat → Int32} {σ : MS} (hJ : Iv T FN dr 2 1 L M σ) : QP T FN dr (Qd T FN dr) M σ (s_callFunc X K d 1 L σ) := by
  obtain ⟨hQ, hI⟩ := (show Qd T FN dr M σ ∧ (I8 T FN dr (L 1) ∧ qN T FN dr 3 (L 3)) from hJ)
  refine QP_ite (fun u1 => ?_) (fun u1 => ?_)
  · skip
    exact QP_t2 (hX _ 2 2 _ _ _ (by decide) ⟨Qd_h hQ rfl, (show I8 T FN dr (L 1) from hI.1)⟩) rfl
  · skip
    refine QP_ite (fun u2 => ?_) (fun u2 => ?_)
    · skip
      refine QP_od (fun e3 => ?_)
      refine QP_oX (hX _ 4 0 _ _ _ (by decide) ⟨hQ, (show qN T FN dr 0 ((L 3)) from (cL hI.2).resolve_left u1 |>.2.1)⟩) (fun r3 Mr3 hMr3 hQr3 => ?_)
      refine QP_chk (fun u3 => ?_)
      exact QP_t2 (hX _ 2 1 _ _ _ (by decide) ⟨Qd_h hQr3 rfl, (show I8 T FN dr (L 1) ∧ qN T FN dr 3 ((r3.2.2.2 9 ((L 3)).toNatClampNeg)) from ⟨hI.1, by rw [rd hQr3 (((cL hI.2).resolve_left u1).1) 9 (by decide) (by decide)]; exact ((cL hI.2).resolve_left u1).2.2⟩)⟩) rfl
    · skip
      exact QP_t2 (hX _ 2 2 _ _ _ (by decide) ⟨Qd_h hQ rfl, (show I8 T FN dr (L 1) from hI.1)⟩) rfl
theorem qv_2_2 {X : Nat → Nat → Nat → (Nat → Int32) → MS → Option (Int32 × MS)} (hX : ∀ e m b L (σ : MS) M, m ≠ 9 → Iv T FN dr m b L M σ → QP T FN dr (Qd T FN dr) M σ (X e m b L σ)) (h9 : ∀ e b L (σ : MS) M, Iv T FN dr 9 b L M σ → QP T FN dr (P9 T FN dr) M σ (X e 9 b L σ)) {K d M : Nat} {L : Nat → Int32} {σ : MS} (hJ : Iv T FN dr 2 2 L M σ) : QP T FN dr (Qd T FN dr) M σ (s_callFunc X K d 2 L σ) := by
  obtain ⟨hQ, hI⟩ := (show Qd T FN dr M σ ∧ (I8 T FN dr (L 1)) from hJ)
  refine QP_ite (fun u1 => ?_) (fun u1 => ?_)
  · skip
    exact QP_t2 (hX _ 2 3 _ _ _ (by decide) ⟨Qd_h hQ rfl, (show I8 T FN dr (L 1) from hI)⟩) rfl
  · skip
    exact QP_some (Qd_k rfl hQ) (K0_k rfl)
theorem qv_2_3 {X : Nat → Nat → Nat → (Nat → Int32) → MS → Option (Int32 × MS)} (hX : ∀ e m b L (σ : MS) M, m ≠ 9 → Iv T FN dr m b L M σ → QP T FN dr (Qd T FN dr) M σ (X e m b L σ)) (h9 : ∀ e b L (σ : MS) M, Iv T FN dr 9 b L M σ → QP T FN dr (P9 T FN dr) M σ (X e 9 b L σ)) {K d M : Nat} {L : Nat → Int32} {σ : MS} (hJ : Iv T FN dr 2 3 L M σ) : QP T FN dr (Qd T FN dr) M σ (s_callFunc X K d 3 L σ) := by
  obtain ⟨hQ, hI⟩ := (show Qd T FN dr M σ ∧ (I8 T FN dr (L 1)) from hJ)
  refine QP_ite (fun u1 => ?_) (fun u1 => ?_)
  · skip
    exact QP_t2 (hX _ 2 4 _ _ _ (by decide) ⟨Qd_h hQ rfl, (show I8 T FN dr (L 1) from hI)⟩) rfl
  · skip
    refine QP_chk (fun u2 => ?_)
    refine QP_ite (fun u3 => ?_) (fun u3 => ?_)
    · skip
      exact QP_t2 (hX _ 2 5 _ _ _ (by decide) ⟨Qd_h hQ rfl, (show I8 T FN dr (L 1) from hI)⟩) rfl
    · skip
      exact QP_t2 (hX _ 2 4 _ _ _ (by decide) ⟨Qd_h hQ rfl, (show I8 T FN dr (L 1) from hI)⟩) rfl
theorem qv_2_4 {X : Nat → Nat → Nat → (Nat → Int32) → MS → Option (Int32 × MS)} (hX : ∀ e m b L (σ : MS) M, m ≠ 9 → Iv T FN dr m b L M σ → QP T FN dr (Qd T FN dr) M σ (X e m b L σ)) (h9 : ∀ e b L (σ : MS) M, Iv T FN dr 9 b L M σ → QP T FN dr (P9 T FN dr) M σ (X e 9 b L σ)) {K d M : Nat} {L : Nat → Int32} {σ : MS} (hJ : Iv T FN dr 2 4 L M σ) : QP T FN dr (Qd T FN dr) M σ (s_callFunc X K d 4 L σ) := by
  obtain ⟨hQ, hI⟩ := (show Qd T FN dr M σ ∧ (I8 T FN dr (L 1)) from hJ)
  refine QP_ob (kr_fail _ _ _ _) hQ (fun r1 er1 kr1 hQr1 => ?_)
  exact QP_some (Qd_k rfl hQr1) (K0_k rfl)
theorem qv_2_5 {X : Nat → Nat → Nat → (Nat → Int32) → MS → Option (Int32 × MS)} (hX : ∀ e m b L (σ : MS) M, m ≠ 9 → Iv T FN dr m b L M σ → QP T FN dr (Qd T FN dr) M σ (X e m b L σ)) (h9 : ∀ e b L (σ : MS) M, Iv T FN dr 9 b L M σ → QP T FN dr (P9 T FN dr) M σ (X e 9 b L σ)) {K d M : Nat} {L : Nat → Int32} {σ : MS} (hJ : Iv T FN dr 2 5 L M σ) : QP T FN dr (Qd T FN dr) M σ (s_callFunc X K d 5 L σ) := by
  obtain ⟨hQ, hI⟩ := (show Qd T FN dr M σ ∧ (I8 T FN dr (L 1)) from hJ)
  refine QP_ob (kr_sweep _ _ _ _) hQ (fun r1 er1 kr1 hQr1 => ?_)
  refine QP_chk (fun u1 => ?_)
  exact QP_t2 (hX _ 2 6 _ _ _ (by decide) ⟨Qd_h hQr1 rfl, (show Fq FN ((r1.2.2.2 5 ((L 1)).toNatClampNeg)) from by rw [rd hQr1 (hI.1) 5 (by decide) (by decide)]; exact hI.2.1)⟩) rfl
theorem qv_2_6 {X : Nat → Nat → Nat → (Nat → Int32) → MS → Option (Int32 × MS)} (hX : ∀ e m b L (σ : MS) M, m ≠ 9 → Iv T FN dr m b L M σ → QP T FN dr (Qd T FN dr) M σ (X e m b L σ)) (h9 : ∀ e b L (σ : MS) M, Iv T FN dr 9 b L M σ → QP T FN dr (P9 T FN dr) M σ (X e 9 b L σ)) {K d M : Nat} {L : Nat → Int32} {σ : MS} (hJ : Iv T FN dr 2 6 L M σ) : QP T FN dr (Qd T FN dr) M σ (s_callFunc X K d 6 L σ) := by
  obtain ⟨hQ, hI⟩ := (show Qd T FN dr M σ ∧ (Fq FN (L 3)) from hJ)
  refine QP_chk (fun u1 => ?_)
  exact QP_t2 (hX _ 2 7 _ _ _ (by decide) ⟨Qd_h hQ rfl, (show Fq FN (L 3) from hI)⟩) rfl
theorem qv_2_7 {X : Nat → Nat → Nat → (Nat → Int32) → MS → Option (Int32 × MS)} (hX : ∀ e m b L (σ : MS) M, m ≠ 9 → Iv T FN dr m b L M σ → QP T FN dr (Qd T FN dr) M σ (X e m b L σ)) (h9 : ∀ e b L (σ : MS) M, Iv T FN dr 9 b L M σ → QP T FN dr (P9 T FN dr) M σ (X e 9 b L σ)) {K d M : Nat} {L : Nat → Int32} {σ : MS} (hJ : Iv T FN dr 2 7 L M σ) : QP T FN dr (Qd T FN dr) M σ (s_callFunc X K d 7 L σ) := by
  obtain ⟨hQ, hI⟩ := (show Qd T FN dr M σ ∧ (Fq FN (L 3)) from hJ)
  exact QP_t2 (hX _ 2 8 _ _ _ (by decide) ⟨Qd_h hQ rfl, (show Fq FN (L 3) from hI)⟩) rfl
theorem qv_2_8 {X : Nat → Nat → Nat → (Nat → Int32) → MS → Option (Int32 × MS)} (hX : ∀ e m b L (σ : MS) M, m ≠ 9 → Iv T FN dr m b L M σ → QP T FN dr (Qd T FN dr) M σ (X e m b L σ)) (h9 : ∀ e b L (σ : MS) M, Iv T FN dr 9 b L M σ → QP T FN dr (P9 T FN dr) M σ (X e 9 b L σ)) {K d M : Nat} {L : Nat → Int32} {σ : MS} (hJ : Iv T FN dr 2 8 L M σ) : QP T FN dr (Qd T FN dr) M σ (s_callFunc X K d 8 L σ) := by
  obtain ⟨hQ, hI⟩ := (show Qd T FN dr M σ ∧ (Fq FN (L 3)) from hJ)
  exact QP_t2 (hX _ 2 9 _ _ _ (by decide) ⟨Qd_h hQ rfl, (show Fq FN (L 3) from hI)⟩) rfl
theorem qv_2_9 {X : Nat → Nat → Nat → (Nat → Int32) → MS → Option (Int32 × MS)} (hX : ∀ e m b L (σ : MS) M, m ≠ 9 → Iv T FN dr m b L M σ → QP T FN dr (Qd T FN dr) M σ (X e m b L σ)) (h9 : ∀ e b L (σ : MS) M, Iv T FN dr 9 b L M σ → QP T FN dr (P9 T FN dr) M σ (X e 9 b L σ)) {K d M : Nat} {L : Nat → Int32} {σ : MS} (hJ : Iv T FN dr 2 9 L M σ) : QP T FN dr (Qd T FN dr) M σ (s_callFunc X K d 9 L σ) := by
  obtain ⟨hQ, hI⟩ := (show Qd T FN dr M σ ∧ (Fq FN (L 3)) from hJ)
  exact QP_t2 (hX _ 2 10 _ _ _ (by decide) ⟨Qd_h hQ rfl, (show Fq FN (L 3) from hI)⟩) rfl
theorem qv_2_10 {X : Nat → Nat → Nat → (Nat → Int32) → MS → Option (Int32 × MS)} (hX : ∀ e m b L (σ : MS) M, m ≠ 9 → Iv T FN dr m b L M σ → QP T FN dr (Qd T FN dr) M σ (X e m b L σ)) (h9 : ∀ e b L (σ : MS) M, Iv T FN dr 9 b L M σ → QP T FN dr (P9 T FN dr) M σ (X e 9 b L σ)) {K d M : Nat} {L : Nat → Int32} {σ : MS} (hJ : Iv T FN dr 2 10 L M σ) : QP T FN dr (Qd T FN dr) M σ (s_callFunc X K d 10 L σ) := by
  obtain ⟨hQ, hI⟩ := (show Qd T FN dr M σ ∧ (Fq FN (L 3)) from hJ)
  refine QP_ite (fun u1 => ?_) (fun u1 => ?_)
  · skip
    exact QP_t2 (hX _ 2 14 _ _ _ (by decide) ⟨Qd_h hQ rfl, (show Fq FN (L 3) from hI)⟩) rfl
  · skip
    refine QP_chk (fun u2 => ?_)
    refine QP_ite (fun u3 => ?_) (fun u3 => ?_)
    · skip
      exact QP_t2 (hX _ 2 11 _ _ _ (by decide) ⟨Qd_h hQ rfl, (show Fq FN (L 3) from hI)⟩) rfl
    · skip
      refine QP_chk (fun u4 => ?_)
      exact QP_t2 (hX _ 2 12 _ _ _ (by decide) ⟨Qd_h hQ rfl, (show Fq FN (L 3) from hI)⟩) rfl
theorem qv_2_11 {X : Nat → Nat → Nat → (Nat → Int32) → MS → Option (Int32 × MS)} (hX : ∀ e m b L (σ : MS) M, m ≠ 9 → Iv T FN dr m b L M σ → QP T FN dr (Qd T FN dr) M σ (X e m b L σ)) (h9 : ∀ e b L (σ : MS) M, Iv T FN dr 9 b L M σ → QP T FN dr (P9 T FN dr) M σ (X e 9 b L σ)) {K d M : Nat} {L : Nat → Int32} {σ : MS} (hJ : Iv T FN dr 2 11 L M σ) : QP T FN dr (Qd T FN dr) M σ (s_callFunc X K d 11 L σ) := by
  obtain ⟨hQ, hI⟩ := (show Qd T FN dr M σ ∧ (Fq FN (L 3)) from hJ)
  exact QP_t2 (hX _ 2 12 _ _ _ (by decide) ⟨Qd_h hQ rfl, (show Fq FN (L 3) from hI)⟩) rfl
theorem qv_2_12 {X : Nat → Nat → Nat → (Nat → Int32) → MS → Option (Int32 × MS)} (hX : ∀ e m b L (σ : MS) M, m ≠ 9 → Iv T FN dr m b L M σ → QP T FN dr (Qd T FN dr) M σ (X e m b L σ)) (h9 : ∀ e b L (σ : MS) M, Iv T FN dr 9 b L M σ → QP T FN dr (P9 T FN dr) M σ (X e 9 b L σ)) {K d M : Nat} {L : Nat → Int32} {σ : MS} (hJ : Iv T FN dr 2 12 L M σ) : QP T FN dr (Qd T FN dr) M σ (s_callFunc X K d 12 L σ) := by
  obtain ⟨hQ, hI⟩ := (show Qd T FN dr M σ ∧ (Fq FN (L 3)) from hJ)
  refine QP_chk (fun u1 => ?_)
  exact QP_t2 (hX _ 2 13 _ _ _ (by decide) ⟨Qd_h hQ rfl, (show Fq FN (L 3) from hI)⟩) rfl
theorem qv_2_13 {X : Nat → Nat → Nat → (Nat → Int32) → MS → Option (Int32 × MS)} (hX : ∀ e m b L (σ : MS) M, m ≠ 9 → Iv T FN dr m b L M σ → QP T FN dr (Qd T FN dr) M σ (X e m b L σ)) (h9 : ∀ e b L (σ : MS) M, Iv T FN dr 9 b L M σ → QP T FN dr (P9 T FN dr) M σ (X e 9 b L σ)) {K d M : Nat} {L : Nat → Int32} {σ : MS} (hJ : Iv T FN dr 2 13 L M σ) : QP T FN dr (Qd T FN dr) M σ (s_callFunc X K d 13 L σ) := by
  obtain ⟨hQ, hI⟩ := (show Qd T FN dr M σ ∧ (Fq FN (L 3)) from hJ)
  exact QP_t2 (hX _ 2 10 _ _ _ (by decide) ⟨Qd_h hQ rfl, (show Fq FN (L 3) from hI)⟩) rfl
theorem qv_2_14 {X : Nat → Nat → Nat → (Nat → Int32) → MS → Option (Int32 × MS)} (hX : ∀ e m b L (σ : MS) M, m ≠ 9 → Iv T FN dr m b L M σ → QP T FN dr (Qd T FN dr) M σ (X e m b L σ)) (h9 : ∀ e b L (σ : MS) M, Iv T FN dr 9 b L M σ → QP T FN dr (P9 T FN dr) M σ (X e 9 b L σ)) {K d M : Nat} {L : Nat → Int32} {σ : MS} (hJ : Iv T FN dr 2 14 L M σ) : QP T FN dr (Qd T FN dr) M σ (s_callFunc X K d 14 L σ) := by
  obtain ⟨hQ, hI⟩ := (show Qd T FN dr M σ ∧ (Fq FN (L 3)) from hJ)
  exact QP_t2 (hX _ 2 15 _ _ _ (by decide) ⟨Qd_h hQ rfl, (show Fq FN (L 3) from hI)⟩) rfl
theorem qv_2_15 {X : Nat → Nat → Nat → (Nat → Int32) → MS → Option (Int32 × MS)} (hX : ∀ e m b L (σ : MS) M, m ≠ 9 → Iv T FN dr m b L M σ → QP T FN dr (Qd T FN dr) M σ (X e m b L σ)) (h9 : ∀ e b L (σ : MS) M, Iv T FN dr 9 b L M σ → QP T FN dr (P9 T FN dr) M σ (X e 9 b L σ)) {K d M : Nat} {L : Nat → Int32} {σ : MS} (hJ : Iv T FN dr 2 15 L M σ) : QP T FN dr (Qd T FN dr) M σ (s_callFunc X K d 15 L σ) := by
  obtain ⟨hQ, hI⟩ := (show Qd T FN dr M σ ∧ (Fq FN (L 3)) from hJ)
  refine QP_chk (fun u1 => ?_)
  refine QP_od (fun e2 => ?_)
  refine QP_oX (hX _ 4 0 _ _ _ (by decide) ⟨hQ, (show qN T FN dr 0 ((σ.2.2 17 ((L 3)).toNatClampNeg)) from cF hQ hI)⟩) (fun r2 Mr2 hMr2 hQr2 => ?_)
  exact QP_t2 (hX _ 2 16 _ _ _ (by decide) ⟨Qd_h hQr2 rfl, (show True from trivial)⟩) rfl
theorem qv_2_16 {X : Nat → Nat → Nat → (Nat → Int32) → MS → Option (Int32 × MS)} (hX : ∀ e m b L (σ : MS) M, m ≠ 9 → Iv T FN dr m b L M σ → QP T FN dr (Qd T FN dr) M σ (X e m b L σ)) (h9 : ∀ e b L (σ : MS) M, Iv T FN dr 9 b L M σ → QP T FN dr (P9 T FN dr) M σ (X e 9 b L σ)) {K d M : Nat} {L : Nat → Int32} {σ : MS} (hJ : Iv T FN dr 2 16 L M σ) : QP T FN dr (Qd T FN dr) M σ (s_callFunc X K d 16 L σ) := by
  obtain ⟨hQ, hI⟩ := (show Qd T FN dr M σ ∧ (True) from hJ)
  refine QP_ite (fun u1 => ?_) (fun u1 => ?_)
  · skip
    exact QP_t2 (hX _ 2 18 _ _ _ (by decide) ⟨Qd_h hQ rfl, (show True from trivial)⟩) rfl
  · skip
    refine QP_chk (fun u2 => ?_)
    exact QP_t2 (hX _ 2 17 _ _ _ (by decide) ⟨Qd_h hQ rfl, (show True from trivial)⟩) rfl
theorem qv_2_17 {X : Nat → Nat → Nat → (Nat → Int32) → MS → Option (Int32 × MS)} (hX : ∀ e m b L (σ : MS) M, m ≠ 9 → Iv T FN dr m b L M σ → QP T FN dr (Qd T FN dr) M σ (X e m b L σ)) (h9 : ∀ e b L (σ : MS) M, Iv T FN dr 9 b L M σ → QP T FN dr (P9 T FN dr) M σ (X e 9 b L σ)) {K d M : Nat} {L : Nat → Int32} {σ : MS} (hJ : Iv T FN dr 2 17 L M σ) : QP T FN dr (Qd T FN dr) M σ (s_callFunc X K d 17 L σ) := by
  obtain ⟨hQ, hI⟩ := (show Qd T FN dr M σ ∧ (True) from hJ)
  exact QP_t2 (hX _ 2 16 _ _ _ (by decide) ⟨Qd_h hQ rfl, (show True from trivial)⟩) rfl
theorem qv_2_18 {X : Nat → Nat → Nat → (Nat → Int32) → MS → Option (Int32 × MS)} (hX : ∀ e m b L (σ : MS) M, m ≠ 9 → Iv T FN dr m b L M σ → QP T FN dr (Qd T FN dr) M σ (X e m b L σ)) (h9 : ∀ e b L (σ : MS) M, Iv T FN dr 9 b L M σ → QP T FN dr (P9 T FN dr) M σ (X e 9 b L σ)) {K d M : Nat} {L : Nat → Int32} {σ : MS} (hJ : Iv T FN dr 2 18 L M σ) : QP T FN dr (Qd T FN dr) M σ (s_callFunc X K d 18 L σ) := by
  obtain ⟨hQ, hI⟩ := (show Qd T FN dr M σ ∧ (True) from hJ)
  exact QP_t2 (hX _ 2 19 _ _ _ (by decide) ⟨Qd_h hQ rfl, (show True from trivial)⟩) rfl
theorem qv_2_19 {X : Nat → Nat → Nat → (Nat → Int32) → MS → Option (Int32 × MS)} (hX : ∀ e m b L (σ : MS) M, m ≠ 9 → Iv T FN dr m b L M σ → QP T FN dr (Qd T FN dr) M σ (X e m b L σ)) (h9 : ∀ e b L (σ : MS) M, Iv T FN dr 9 b L M σ → QP T FN dr (P9 T FN dr) M σ (X e 9 b L σ)) {K d M : Nat} {L : Nat → Int32} {σ : MS} (hJ : Iv T FN dr 2 19 L M σ) : QP T FN dr (Qd T FN dr) M σ (s_callFunc X K d 19 L σ) := by
  obtain ⟨hQ, hI⟩ := (show Qd T FN dr M σ ∧ (True) from hJ)
  refine QP_chk (fun u1 => ?_)
  exact QP_t2 (hX _ 2 20 _ _ _ (by decide) ⟨Qd_h hQ rfl, (show True from trivial)⟩) rfl
theorem qv_2_20 {X : Nat → Nat → Nat → (Nat → Int32) → MS → Option (Int32 × MS)} (hX : ∀ e m b L (σ : MS) M, m ≠ 9 → Iv T FN dr m b L M σ → QP T FN dr (Qd T FN dr) M σ (X e m b L σ)) (h9 : ∀ e b L (σ : MS) M, Iv T FN dr 9 b L M σ → QP T FN dr (P9 T FN dr) M σ (X e 9 b L σ)) {K d M : Nat} {L : Nat → Int32} {σ : MS} (hJ : Iv T FN dr 2 20 L M σ) : QP T FN dr (Qd T FN dr) M σ (s_callFunc X K d 20 L σ) := by
  obtain ⟨hQ, hI⟩ := (show Qd T FN dr M σ ∧ (True) from hJ)
  exact QP_t2 (hX _ 2 21 _ _ _ (by decide) ⟨Qd_h hQ rfl, (show True from trivial)⟩) rfl
theorem qv_2_21 {X : Nat → Nat → Nat → (Nat → Int32) → MS → Option (Int32 × MS)} (hX : ∀ e m b L (σ : MS) M, m ≠ 9 → Iv T FN dr m b L M σ → QP T FN dr (Qd T FN dr) M σ (X e m b L σ)) (h9 : ∀ e b L (σ : MS) M, Iv T FN dr 9 b L M σ → QP T FN dr (P9 T FN dr) M σ (X e 9 b L σ)) {K d M : Nat} {L : Nat → Int32} {σ : MS} (hJ : Iv T FN dr 2 21 L M σ) : QP T FN dr (Qd T FN dr) M σ (s_callFunc X K d 21 L σ) := by
  obtain ⟨hQ, hI⟩ := (show Qd T FN dr M σ ∧ (True) from hJ)
  refine QP_chk (fun u1 => ?_)
  exact QP_t2 (hX _ 2 22 _ _ _ (by decide) ⟨Qd_h hQ rfl, (show True from trivial)⟩) rfl
theorem qv_2_22 {X : Nat → Nat → Nat → (Nat → Int32) → MS → Option (Int32 × MS)} (hX : ∀ e m b L (σ : MS) M, m ≠ 9 → Iv T FN dr m b L M σ → QP T FN dr (Qd T FN dr) M σ (X e m b L σ)) (h9 : ∀ e b L (σ : MS) M, Iv T FN dr 9 b L M σ → QP T FN dr (P9 T FN dr) M σ (X e 9 b L σ)) {K d M : Nat} {L : Nat → Int32} {σ : MS} (hJ : Iv T FN dr 2 22 L M σ) : QP T FN dr (Qd T FN dr) M σ (s_callFunc X K d 22 L σ) := by
  obtain ⟨hQ, hI⟩ := (show Qd T FN dr M σ ∧ (True) from hJ)
  refine QP_ite (fun u1 => ?_) (fun u1 => ?_)
  · skip
    refine QP_chk (fun u2 => ?_)
    refine QP_ob (kr_answer _ _ _ _) hQ (fun r3 er3 kr3 hQr3 => ?_)
    exact QP_t2 (hX _ 2 23 _ _ _ (by decide) ⟨Qd_h hQr3 rfl, (show True from trivial)⟩) rfl
  · skip
    exact QP_t2 (hX _ 2 23 _ _ _ (by decide) ⟨Qd_h hQ rfl, (show True from trivial)⟩) rfl
theorem qv_2_23 {X : Nat → Nat → Nat → (Nat → Int32) → MS → Option (Int32 × MS)} (hX : ∀ e m b L (σ : MS) M, m ≠ 9 → Iv T FN dr m b L M σ → QP T FN dr (Qd T FN dr) M σ (X e m b L σ)) (h9 : ∀ e b L (σ : MS) M, Iv T FN dr 9 b L M σ → QP T FN dr (P9 T FN dr) M σ (X e 9 b L σ)) {K d M : Nat} {L : Nat → Int32} {σ : MS} (hJ : Iv T FN dr 2 23 L M σ) : QP T FN dr (Qd T FN dr) M σ (s_callFunc X K d 23 L σ) := by
  obtain ⟨hQ, hI⟩ := (show Qd T FN dr M σ ∧ (True) from hJ)
  exact QP_some (Qd_k rfl hQ) (K0_k rfl)
theorem qv_2 {X : Nat → Nat → Nat → (Nat → Int32) → MS → Option (Int32 × MS)} (hX : ∀ e m b L (σ : MS) M, m ≠ 9 → Iv T FN dr m b L M σ → QP T FN dr (Qd T FN dr) M σ (X e m b L σ)) (h9 : ∀ e b L (σ : MS) M, Iv T FN dr 9 b L M σ → QP T FN dr (P9 T FN dr) M σ (X e 9 b L σ)) {K d M b : Nat} {L : Nat → Int32} {σ : MS} (hJ : Iv T FN dr 2 b L M σ) : QP T FN dr (Qd T FN dr) M σ (s_callFunc X K d b L σ) := by
  match b, hJ with
  | 0, hJ => exact qv_2_0 hX h9 hJ
  | 1, hJ => exact qv_2_1 hX h9 hJ
  | 2, hJ => exact qv_2_2 hX h9 hJ
  | 3, hJ => exact qv_2_3 hX h9 hJ
  | 4, hJ => exact qv_2_4 hX h9 hJ
  | 5, hJ => exact qv_2_5 hX h9 hJ
  | 6, hJ => exact qv_2_6 hX h9 hJ
  | 7, hJ => exact qv_2_7 hX h9 hJ
  | 8, hJ => exact qv_2_8 hX h9 hJ
  | 9, hJ => exact qv_2_9 hX h9 hJ
  | 10, hJ => exact qv_2_10 hX h9 hJ
  | 11, hJ => exact qv_2_11 hX h9 hJ
  | 12, hJ => exact qv_2_12 hX h9 hJ
  | 13, hJ => exact qv_2_13 hX h9 hJ
  | 14, hJ => exact qv_2_14 hX h9 hJ
  | 15, hJ => exact qv_2_15 hX h9 hJ
  | 16, hJ => exact qv_2_16 hX h9 hJ
  | 17, hJ => exact qv_2_17 hX h9 hJ
  | 18, hJ => exact qv_2_18 hX h9 hJ
  | 19, hJ => exact qv_2_19 hX h9 hJ
  | 20, hJ => exact qv_2_20 hX h9 hJ
  | 21, hJ => exact qv_2_21 hX h9 hJ
  | 22, hJ => exact qv_2_22 hX h9 hJ
  | 23, hJ => exact qv_2_23 hX h9 hJ
  | b + 24, _ => exact QP_no
theorem qv_3_0 {X : Nat → Nat → Nat → (Nat → Int32) → MS → Option (Int32 × MS)} (hX : ∀ e m b L (σ : MS) M, m ≠ 9 → Iv T FN dr m b L M σ → QP T FN dr (Qd T FN dr) M σ (X e m b L σ)) (h9 : ∀ e b L (σ : MS) M, Iv T FN dr 9 b L M σ → QP T FN dr (P9 T FN dr) M σ (X e 9 b L σ)) {K d M : Nat} {L : Nat → Int32} {σ : MS} (hJ : Iv T FN dr 3 0 L M σ) : QP T FN dr (Qd T FN dr) M σ (s_choose X K d 0 L σ) := by
  obtain ⟨hQ, hI⟩ := (show Qd T FN dr M σ ∧ (I15 T FN dr (L 1)) from hJ)
  refine QP_chk (fun u1 => ?_)
  exact QP_t2 (hX _ 3 1 _ _ _ (by decide) ⟨Qd_h hQ rfl, (show qN T FN dr 5 ((σ.2.2 6 ((L 1)).toNatClampNeg)) from by rw [rd hQ (hI.1) 6 (by decide) (by decide)]; exact hI.2)⟩) rfl
theorem qv_3_1 {X : Nat → Nat → Nat → (Nat → Int32) → MS → Option (Int32 × MS)} (hX : ∀ e m b L (σ : MS) M, m ≠ 9 → Iv T FN dr m b L M σ → QP T FN dr (Qd T FN dr) M σ (X e m b L σ)) (h9 : ∀ e b L (σ : MS) M, Iv T FN dr 9 b L M σ → QP T FN dr (P9 T FN dr) M σ (X e 9 b L σ)) {K d M : Nat} {L : Nat → Int32} {σ : MS} (hJ : Iv T FN dr 3 1 L M σ) : QP T FN dr (Qd T FN dr) M σ (s_choose X K d 1 L σ) := by
  obtain ⟨hQ, hI⟩ := (show Qd T FN dr M σ ∧ (qN T FN dr 5 (L 2)) from hJ)
  refine QP_ite (fun u1 => ?_) (fun u1 => ?_)
  · skip
    exact QP_t2 (hX _ 3 4 _ _ _ (by decide) ⟨Qd_h hQ rfl, (show qN T FN dr 5 (L 2) from hI)⟩) rfl
  · skip
    refine QP_ite (fun u2 => ?_) (fun u2 => ?_)
    · skip
      refine QP_chk (fun u3 => ?_)
      refine QP_ite (fun u4 => ?_) (fun u4 => ?_)
      · skip
        exact QP_t2 (hX _ 3 2 _ _ _ (by decide) ⟨Qd_h hQ rfl, (show qN T FN dr 5 (L 2) from hI)⟩) rfl
      · skip
        refine QP_chk (fun u5 => ?_)
        refine QP_od (fun e6 => ?_)
        refine QP_oX (hX _ 8 0 _ _ _ (by decide) ⟨hQ, (show qN T FN dr 0 ((σ.2.2 5 ((L 2)).toNatClampNeg)) from by rw [rd hQ ((cR hI).1) 5 (by decide) (by decide)]; exact ((cR hI).2.2.resolve_left (fun z => u4 ((rd hQ ((cR hI).1) 5 (by decide) (by decide)).trans z))).1)⟩) (fun r6 Mr6 hMr6 hQr6 => ?_)
        refine QP_ite (fun u6 => ?_) (fun u6 => ?_)
        · skip
          exact QP_t2 (hX _ 3 3 _ _ _ (by decide) ⟨Qd_h hQr6 rfl, (show qN T FN dr 5 (L 2) ∧ ¬ T 5 (L 2).toNatClampNeg = -1 from ⟨hI, fun z => u4 ((rd hQ (cR hI).1 5 (by decide) (by decide)).trans z)⟩)⟩) rfl
        · skip
          exact QP_t2 (hX _ 3 2 _ _ _ (by decide) ⟨Qd_h hQr6 rfl, (show qN T FN dr 5 (L 2) from hI)⟩) rfl
    · skip
      exact QP_t2 (hX _ 3 4 _ _ _ (by decide) ⟨Qd_h hQ rfl, (show qN T FN dr 5 (L 2) from hI)⟩) rfl
theorem qv_3_2 {X : Nat → Nat → Nat → (Nat → Int32) → MS → Option (Int32 × MS)} (hX : ∀ e m b L (σ : MS) M, m ≠ 9 → Iv T FN dr m b L M σ → QP T FN dr (Qd T FN dr) M σ (X e m b L σ)) (h9 : ∀ e b L (σ : MS) M, Iv T FN dr 9 b L M σ → QP T FN dr (P9 T FN dr) M σ (X e 9 b L σ)) {K d M : Nat} {L : Nat → Int32} {σ : MS} (hJ : Iv T FN dr 3 2 L M σ) : QP T FN dr (Qd T FN dr) M σ (s_choose X K d 2 L σ) := by
  obtain ⟨hQ, hI⟩ := (show Qd T FN dr M σ ∧ (qN T FN dr 5 (L 2)) from hJ)
  exact QP_t2 (hX _ 3 1 _ _ _ (by decide) ⟨Qd_h hQ rfl, (show qN T FN dr 5 (L 2) from hI)⟩) rfl
theorem qv_3_3 {X : Nat → Nat → Nat → (Nat → Int32) → MS → Option (Int32 × MS)} (hX : ∀ e m b L (σ : MS) M, m ≠ 9 → Iv T FN dr m b L M σ → QP T FN dr (Qd T FN dr) M σ (X e m b L σ)) (h9 : ∀ e b L (σ : MS) M, Iv T FN dr 9 b L M σ → QP T FN dr (P9 T FN dr) M σ (X e 9 b L σ)) {K d M : Nat} {L : Nat → Int32} {σ : MS} (hJ : Iv T FN dr 3 3 L M σ) : QP T FN dr (Qd T FN dr) M σ (s_choose X K d 3 L σ) := by
  obtain ⟨hQ, hI⟩ := (show Qd T FN dr M σ ∧ (qN T FN dr 5 (L 2) ∧ ¬ T 5 (L 2).toNatClampNeg = -1) from hJ)
  refine QP_chk (fun u1 => ?_)
  exact QP_t2 (hX _ 3 1 _ _ _ (by decide) ⟨Qd_h hQ rfl, (show qN T FN dr 5 ((σ.2.2 9 ((L 2)).toNatClampNeg)) from by rw [rd hQ ((cR hI.1).1) 9 (by decide) (by decide)]; exact ((cR hI.1).2.2.resolve_left hI.2).2)⟩) rfl
theorem qv_3_4 {X : Nat → Nat → Nat → (Nat → Int32) → MS → Option (Int32 × MS)} (hX : ∀ e m b L (σ : MS) M, m ≠ 9 → Iv T FN dr m b L M σ → QP T FN dr (Qd T FN dr) M σ (X e m b L σ)) (h9 : ∀ e b L (σ : MS) M, Iv T FN dr 9 b L M σ → QP T FN dr (P9 T FN dr) M σ (X e 9 b L σ)) {K d M : Nat} {L : Nat → Int32} {σ : MS} (hJ : Iv T FN dr 3 4 L M σ) : QP T FN dr (Qd T FN dr) M σ (s_choose X K d 4 L σ) := by
  obtain ⟨hQ, hI⟩ := (show Qd T FN dr M σ ∧ (qN T FN dr 5 (L 2)) from hJ)
  refine QP_ite (fun u1 => ?_) (fun u1 => ?_)
  · skip
    refine QP_chk (fun u2 => ?_)
    refine QP_od (fun e3 => ?_)
    refine QP_oX (hX _ 4 0 _ _ _ (by decide) ⟨hQ, (show qN T FN dr 0 ((σ.2.2 6 ((L 2)).toNatClampNeg)) from by rw [rd hQ ((cR hI).1) 6 (by decide) (by decide)]; exact (cR hI).2.1)⟩) (fun r3 Mr3 hMr3 hQr3 => ?_)
    exact QP_t2 (hX _ 3 5 _ _ _ (by decide) ⟨Qd_h hQr3 rfl, (show True from trivial)⟩) rfl
  · skip
    exact QP_t2 (hX _ 3 5 _ _ _ (by decide) ⟨Qd_h hQ rfl, (show True from trivial)⟩) rfl
theorem qv_3_5 {X : Nat → Nat → Nat → (Nat → Int32) → MS → Option (Int32 × MS)} (hX : ∀ e m b L (σ : MS) M, m ≠ 9 → Iv T FN dr m b L M σ → QP T FN dr (Qd T FN dr) M σ (X e m b L σ)) (h9 : ∀ e b L (σ : MS) M, Iv T FN dr 9 b L M σ → QP T FN dr (P9 T FN dr) M σ (X e 9 b L σ)) {K d M : Nat} {L : Nat → Int32} {σ : MS} (hJ : Iv T FN dr 3 5 L M σ) : QP T FN dr (Qd T FN dr) M σ (s_choose X K d 5 L σ) := by
  obtain ⟨hQ, hI⟩ := (show Qd T FN dr M σ ∧ (True) from hJ)
  exact QP_some (Qd_k rfl hQ) (K0_k rfl)
theorem qv_3 {X : Nat → Nat → Nat → (Nat → Int32) → MS → Option (Int32 × MS)} (hX : ∀ e m b L (σ : MS) M, m ≠ 9 → Iv T FN dr m b L M σ → QP T FN dr (Qd T FN dr) M σ (X e m b L σ)) (h9 : ∀ e b L (σ : MS) M, Iv T FN dr 9 b L M σ → QP T FN dr (P9 T FN dr) M σ (X e 9 b L σ)) {K d M b : Nat} {L : Nat → Int32} {σ : MS} (hJ : Iv T FN dr 3 b L M σ) : QP T FN dr (Qd T FN dr) M σ (s_choose X K d b L σ) := by
  match b, hJ with
  | 0, hJ => exact qv_3_0 hX h9 hJ
  | 1, hJ => exact qv_3_1 hX h9 hJ
  | 2, hJ => exact qv_3_2 hX h9 hJ
  | 3, hJ => exact qv_3_3 hX h9 hJ
  | 4, hJ => exact qv_3_4 hX h9 hJ
  | 5, hJ => exact qv_3_5 hX h9 hJ
  | b + 6, _ => exact QP_no
theorem qv_4_0 {X : Nat → Nat → Nat → (Nat → Int32) → MS → Option (Int32 × MS)} (hX : ∀ e m b L (σ : MS) M, m ≠ 9 → Iv T FN dr m b L M σ → QP T FN dr (Qd T FN dr) M σ (X e m b L σ)) (h9 : ∀ e b L (σ : MS) M, Iv T FN dr 9 b L M σ → QP T FN dr (P9 T FN dr) M σ (X e 9 b L σ)) {K d M : Nat} {L : Nat → Int32} {σ : MS} (hJ : Iv T FN dr 4 0 L M σ) : QP T FN dr (Qd T FN dr) M σ (s_eval X K d 0 L σ) := by
  obtain ⟨hQ, hI⟩ := (show Qd T FN dr M σ ∧ (qN T FN dr 0 (L 1)) from hJ)
  exact QP_t2 (hX _ 4 1 _ _ _ (by decide) ⟨Qd_h hQ rfl, (show Chq T FN dr (L 1) ((L 1)) from cE hI)⟩) rfl
theorem qv_4_1 {X : Nat → Nat → Nat → (Nat → Int32) → MS → Option (Int32 × MS)} (hX : ∀ e m b L (σ : MS) M, m ≠ 9 → Iv T FN dr m b L M σ → QP T FN dr (Qd T FN dr) M σ (X e m b L σ)) (h9 : ∀ e b L (σ : MS) M, Iv T FN dr 9 b L M σ → QP T FN dr (P9 T FN dr) M σ (X e 9 b L σ)) {K d M : Nat} {L : Nat → Int32} {σ : MS} (hJ : Iv T FN dr 4 1 L M σ) : QP T FN dr (Qd T FN dr) M σ (s_eval X K d 1 L σ) := by
  obtain ⟨hQ, hI⟩ := (show Qd T FN dr M σ ∧ (Chq T FN dr (L 1) (L 2)) from hJ)
  refine QP_chk (fun u1 => ?_)
  refine QP_ob (kr_isOver _ _ _ _) hQ (fun r2 er2 kr2 hQr2 => ?_)
  refine QP_ite (fun u2 => ?_) (fun u2 => ?_)
  · skip
    exact QP_t2 (hX _ 4 2 _ _ _ (by decide) ⟨Qd_h hQr2 rfl, (show Ch0 T FN dr (L 1) (L 2) from Ch_0 hI (by have z := isov er2; rw [show (upd (fun _ => 0) 0 (σ.2.2 4 (L 2).toNatClampNeg) : Nat → Int32) 0 = σ.2.2 4 (L 2).toNatClampNeg from rfl, rd hQ (Ch_nd hI) 4 (by decide) (by decide)] at z; exact fun y => z.mp y u2))⟩) rfl
  · skip
    refine QP_chk (fun u3 => ?_)
    exact QP_t2 (hX _ 4 1 _ _ _ (by decide) ⟨Qd_h hQr2 rfl, (show Chq T FN dr (L 1) ((r2.2.2.2 6 ((L 2)).toNatClampNeg)) from by rw [rd hQr2 (Ch_nd hI) 6 (by decide) (by decide)]; exact Ch_dn hI (by have z := isov er2; rw [show (upd (fun _ => 0) 0 (σ.2.2 4 (L 2).toNatClampNeg) : Nat → Int32) 0 = σ.2.2 4 (L 2).toNatClampNeg from rfl, rd hQ (Ch_nd hI) 4 (by decide) (by decide)] at z; exact z.mpr u2))⟩) rfl
theorem qv_4_2 {X : Nat → Nat → Nat → (Nat → Int32) → MS → Option (Int32 × MS)} (hX : ∀ e m b L (σ : MS) M, m ≠ 9 → Iv T FN dr m b L M σ → QP T FN dr (Qd T FN dr) M σ (X e m b L σ)) (h9 : ∀ e b L (σ : MS) M, Iv T FN dr 9 b L M σ → QP T FN dr (P9 T FN dr) M σ (X e 9 b L σ)) {K d M : Nat} {L : Nat → Int32} {σ : MS} (hJ : Iv T FN dr 4 2 L M σ) : QP T FN dr (Qd T FN dr) M σ (s_eval X K d 2 L σ) := by
  obtain ⟨hQ, hI⟩ := (show Qd T FN dr M σ ∧ (Ch0 T FN dr (L 1) (L 2)) from hJ)
  refine QP_od (fun e1 => ?_)
  refine QP_oX (hX _ 0 0 _ _ _ (by decide) ⟨hQ, (show qN T FN dr 1 ((L 2)) from Ch0_b hI)⟩) (fun r1 Mr1 hMr1 hQr1 => ?_)
  exact QP_t2 (hX _ 4 3 _ _ _ (by decide) ⟨Qd_h hQr1 rfl, (show Chq T FN dr (L 1) (L 2) from Ch0_c hI)⟩) rfl
theorem qv_4_3 {X : Nat → Nat → Nat → (Nat → Int32) → MS → Option (Int32 × MS)} (hX : ∀ e m b L (σ : MS) M, m ≠ 9 → Iv T FN dr m b L M σ → QP T FN dr (Qd T FN dr) M σ (X e m b L σ)) (h9 : ∀ e b L (σ : MS) M, Iv T FN dr 9 b L M σ → QP T FN dr (P9 T FN dr) M σ (X e 9 b L σ)) {K d M : Nat} {L : Nat → Int32} {σ : MS} (hJ : Iv T FN dr 4 3 L M σ) : QP T FN dr (Qd T FN dr) M σ (s_eval X K d 3 L σ) := by
  obtain ⟨hQ, hI⟩ := (show Qd T FN dr M σ ∧ (Chq T FN dr (L 1) (L 2)) from hJ)
  refine QP_ite (fun u1 => ?_) (fun u1 => ?_)
  · skip
    exact QP_t2 (hX _ 4 4 _ _ _ (by decide) ⟨Qd_h hQ rfl, (show True from trivial)⟩) rfl
  · skip
    refine QP_ite (fun u2 => ?_) (fun u2 => ?_)
    · skip
      refine QP_chk (fun u3 => ?_)
      refine QP_od (fun e4 => ?_)
      refine QP_oX (hX _ 7 0 _ _ _ (by decide) ⟨hQ, (show qN T FN dr 2 ((σ.2.2 9 ((L 2)).toNatClampNeg)) from by rw [rd hQ (Ch_nd hI) 9 (by decide) (by decide)]; exact (Ch_up hI u1).1)⟩) (fun r4 Mr4 hMr4 hQr4 => ?_)
      exact QP_t2 (hX _ 4 3 _ _ _ (by decide) ⟨Qd_h hQr4 rfl, (show Chq T FN dr (L 1) ((σ.2.2 9 ((L 2)).toNatClampNeg)) from by rw [rd hQ (Ch_nd hI) 9 (by decide) (by decide)]; exact (Ch_up hI u1).2)⟩) rfl
    · skip
      exact QP_t2 (hX _ 4 4 _ _ _ (by decide) ⟨Qd_h hQ rfl, (show True from trivial)⟩) rfl
theorem qv_4_4 {X : Nat → Nat → Nat → (Nat → Int32) → MS → Option (Int32 × MS)} (hX : ∀ e m b L (σ : MS) M, m ≠ 9 → Iv T FN dr m b L M σ → QP T FN dr (Qd T FN dr) M σ (X e m b L σ)) (h9 : ∀ e b L (σ : MS) M, Iv T FN dr 9 b L M σ → QP T FN dr (P9 T FN dr) M σ (X e 9 b L σ)) {K d M : Nat} {L : Nat → Int32} {σ : MS} (hJ : Iv T FN dr 4 4 L M σ) : QP T FN dr (Qd T FN dr) M σ (s_eval X K d 4 L σ) := by
  obtain ⟨hQ, hI⟩ := (show Qd T FN dr M σ ∧ (True) from hJ)
  exact QP_some (Qd_k rfl hQ) (K0_k rfl)
theorem qv_4 {X : Nat → Nat → Nat → (Nat → Int32) → MS → Option (Int32 × MS)} (hX : ∀ e m b L (σ : MS) M, m ≠ 9 → Iv T FN dr m b L M σ → QP T FN dr (Qd T FN dr) M σ (X e m b L σ)) (h9 : ∀ e b L (σ : MS) M, Iv T FN dr 9 b L M σ → QP T FN dr (P9 T FN dr) M σ (X e 9 b L σ)) {K d M b : Nat} {L : Nat → Int32} {σ : MS} (hJ : Iv T FN dr 4 b L M σ) : QP T FN dr (Qd T FN dr) M σ (s_eval X K d b L σ) := by
  match b, hJ with
  | 0, hJ => exact qv_4_0 hX h9 hJ
  | 1, hJ => exact qv_4_1 hX h9 hJ
  | 2, hJ => exact qv_4_2 hX h9 hJ
  | 3, hJ => exact qv_4_3 hX h9 hJ
  | 4, hJ => exact qv_4_4 hX h9 hJ
  | b + 5, _ => exact QP_no
theorem qv_5_0 {X : Nat → Nat → Nat → (Nat → Int32) → MS → Option (Int32 × MS)} (hX : ∀ e m b L (σ : MS) M, m ≠ 9 → Iv T FN dr m b L M σ → QP T FN dr (Qd T FN dr) M σ (X e m b L σ)) (h9 : ∀ e b L (σ : MS) M, Iv T FN dr 9 b L M σ → QP T FN dr (P9 T FN dr) M σ (X e 9 b L σ)) {K d M : Nat} {L : Nat → Int32} {σ : MS} (hJ : Iv T FN dr 5 0 L M σ) : QP T FN dr (Qd T FN dr) M σ (s_former X K d 0 L σ) := by
  obtain ⟨hQ, hI⟩ := (show Qd T FN dr M σ ∧ (I13 T FN dr (L 1)) from hJ)
  refine QP_chk (fun u1 => ?_)
  refine QP_od (fun e2 => ?_)
  refine QP_oX (hX _ 6 0 _ _ _ (by decide) ⟨hQ, (show qN T FN dr 4 ((σ.2.2 6 ((L 1)).toNatClampNeg)) from by rw [rd hQ (hI.1) 6 (by decide) (by decide)]; exact hI.2.1)⟩) (fun r2 Mr2 hMr2 hQr2 => ?_)
  exact QP_t2 (hX _ 5 1 _ _ _ (by decide) ⟨Qd_h hQr2 rfl, (show I13 T FN dr (L 1) ∧ ((σ.1 72)).toNatClampNeg ≤ Mr2 from ⟨hI, Nat.le_trans hQ.2.2.1 (Nat.le_trans (Nat.le_refl _) hMr2)⟩)⟩) rfl
theorem qv_5_1 {X : Nat → Nat → Nat → (Nat → Int32) → MS → Option (Int32 × MS)} (hX : ∀ e m b L (σ : MS) M, m ≠ 9 → Iv T FN dr m b L M σ → QP T FN dr (Qd T FN dr) M σ (X e m b L σ)) (h9 : ∀ e b L (σ : MS) M, Iv T FN dr 9 b L M σ → QP T FN dr (P9 T FN dr) M σ (X e 9 b L σ)) {K d M : Nat} {L : Nat → Int32} {σ : MS} (hJ : Iv T FN dr 5 1 L M σ) : QP T FN dr (Qd T FN dr) M σ (s_former X K d 1 L σ) := by
  obtain ⟨hQ, hI⟩ := (show Qd T FN dr M σ ∧ (I13 T FN dr (L 1) ∧ (L 3).toNatClampNeg ≤ M) from hJ)
  refine QP_ite (fun u1 => ?_) (fun u1 => ?_)
  · skip
    exact QP_t2 (hX _ 5 6 _ _ _ (by decide) ⟨Qd_h hQ rfl, (show I13 T FN dr (L 1) ∧ (L 3).toNatClampNeg ≤ M from ⟨hI.1, Nat.le_trans hI.2 (Nat.le_refl _)⟩)⟩) rfl
  · skip
    refine QP_ite (fun u2 => ?_) (fun u2 => ?_)
    · skip
      refine QP_chk (fun u3 => ?_)
      refine QP_ite (fun u4 => ?_) (fun u4 => ?_)
      · skip
        exact QP_t2 (hX _ 5 2 _ _ _ (by decide) ⟨Qd_h hQ rfl, (show I13 T FN dr (L 1) ∧ (L 3).toNatClampNeg ≤ M from ⟨hI.1, Nat.le_trans hI.2 (Nat.le_refl _)⟩)⟩) rfl
      · skip
        refine QP_chk (fun u5 => ?_)
        refine QP_od (fun e6 => ?_)
        refine QP_oX (hX _ 8 0 _ _ _ (by decide) ⟨hQ, (show qN T FN dr 0 ((σ.2.2 7 ((L 1)).toNatClampNeg)) from by rw [rd hQ (hI.1.1) 7 (by decide) (by decide)]; exact hI.1.2.2.1.resolve_left (fun z => u4 ((rd hQ (hI.1.1) 7 (by decide) (by decide)).trans z)))⟩) (fun r6 Mr6 hMr6 hQr6 => ?_)
        refine QP_ite (fun u6 => ?_) (fun u6 => ?_)
        · skip
          exact QP_t2 (hX _ 5 3 _ _ _ (by decide) ⟨Qd_h hQr6 rfl, (show I13 T FN dr (L 1) ∧ (L 3).toNatClampNeg ≤ Mr6 from ⟨hI.1, Nat.le_trans hI.2 (Nat.le_trans (Nat.le_refl _) hMr6)⟩)⟩) rfl
        · skip
          exact QP_t2 (hX _ 5 2 _ _ _ (by decide) ⟨Qd_h hQr6 rfl, (show I13 T FN dr (L 1) ∧ (L 3).toNatClampNeg ≤ Mr6 from ⟨hI.1, Nat.le_trans hI.2 (Nat.le_trans (Nat.le_refl _) hMr6)⟩)⟩) rfl
    · skip
      exact QP_t2 (hX _ 5 6 _ _ _ (by decide) ⟨Qd_h hQ rfl, (show I13 T FN dr (L 1) ∧ (L 3).toNatClampNeg ≤ M from ⟨hI.1, Nat.le_trans hI.2 (Nat.le_refl _)⟩)⟩) rfl
theorem qv_5_2 {X : Nat → Nat → Nat → (Nat → Int32) → MS → Option (Int32 × MS)} (hX : ∀ e m b L (σ : MS) M, m ≠ 9 → Iv T FN dr m b L M σ → QP T FN dr (Qd T FN dr) M σ (X e m b L σ)) (h9 : ∀ e b L (σ : MS) M, Iv T FN dr 9 b L M σ → QP T FN dr (P9 T FN dr) M σ (X e 9 b L σ)) {K d M : Nat} {L : Nat → Int32} {σ : MS} (hJ : Iv T FN dr 5 2 L M σ) : QP T FN dr (Qd T FN dr) M σ (s_former X K d 2 L σ) := by
  obtain ⟨hQ, hI⟩ := (show Qd T FN dr M σ ∧ (I13 T FN dr (L 1) ∧ (L 3).toNatClampNeg ≤ M) from hJ)
  refine QP_chk (fun u1 => ?_)
  refine QP_od (fun e2 => ?_)
  refine QP_oX (hX _ 4 0 _ _ _ (by decide) ⟨hQ, (show qN T FN dr 0 ((σ.2.2 8 ((L 1)).toNatClampNeg)) from by rw [rd hQ (hI.1.1) 8 (by decide) (by decide)]; exact hI.1.2.2.2)⟩) (fun r2 Mr2 hMr2 hQr2 => ?_)
  refine QP_ite (fun u2 => ?_) (fun u2 => ?_)
  · skip
    refine QP_chk (fun u3 => ?_)
    refine QP_ite (fun u4 => ?_) (fun u4 => ?_)
    · skip
      refine QP_chk (fun u5 => ?_)
      refine QP_ite (fun u6 => ?_) (fun u6 => ?_)
      · skip
        refine QP_ob (kr_fail _ _ _ _) hQr2 (fun r8 er8 kr8 hQr8 => ?_)
        exact QP_t2 (hX _ 5 3 _ _ _ (by decide) ⟨Qd_h hQr8 rfl, (show I13 T FN dr (L 1) ∧ (L 3).toNatClampNeg ≤ Mr2 from ⟨hI.1, Nat.le_trans hI.2 (Nat.le_trans (Nat.le_refl _) hMr2)⟩)⟩) rfl
      · skip
        exact QP_t2 (hX _ 5 3 _ _ _ (by decide) ⟨Qd_h hQr2 rfl, (show I13 T FN dr (L 1) ∧ (L 3).toNatClampNeg ≤ Mr2 from ⟨hI.1, Nat.le_trans hI.2 (Nat.le_trans (Nat.le_refl _) hMr2)⟩)⟩) rfl
    · skip
      exact QP_t2 (hX _ 5 3 _ _ _ (by decide) ⟨Qd_h hQr2 rfl, (show I13 T FN dr (L 1) ∧ (L 3).toNatClampNeg ≤ Mr2 from ⟨hI.1, Nat.le_trans hI.2 (Nat.le_trans (Nat.le_refl _) hMr2)⟩)⟩) rfl
  · skip
    exact QP_t2 (hX _ 5 3 _ _ _ (by decide) ⟨Qd_h hQr2 rfl, (show I13 T FN dr (L 1) ∧ (L 3).toNatClampNeg ≤ Mr2 from ⟨hI.1, Nat.le_trans hI.2 (Nat.le_trans (Nat.le_refl _) hMr2)⟩)⟩) rfl
theorem qv_5_3 {X : Nat → Nat → Nat → (Nat → Int32) → MS → Option (Int32 × MS)} (hX : ∀ e m b L (σ : MS) M, m ≠ 9 → Iv T FN dr m b L M σ → QP T FN dr (Qd T FN dr) M σ (X e m b L σ)) (h9 : ∀ e b L (σ : MS) M, Iv T FN dr 9 b L M σ → QP T FN dr (P9 T FN dr) M σ (X e 9 b L σ)) {K d M : Nat} {L : Nat → Int32} {σ : MS} (hJ : Iv T FN dr 5 3 L M σ) : QP T FN dr (Qd T FN dr) M σ (s_former X K d 3 L σ) := by
  obtain ⟨hQ, hI⟩ := (show Qd T FN dr M σ ∧ (I13 T FN dr (L 1) ∧ (L 3).toNatClampNeg ≤ M) from hJ)
  refine QP_ite (fun u1 => ?_) (fun u1 => ?_)
  · skip
    refine QP_chk (fun u2 => ?_)
    refine QP_od (fun e3 => ?_)
    refine QP_oX (hX _ 6 0 _ _ _ (by decide) ⟨hQ, (show qN T FN dr 4 ((σ.2.2 6 ((L 1)).toNatClampNeg)) from by rw [rd hQ (hI.1.1) 6 (by decide) (by decide)]; exact hI.1.2.1)⟩) (fun r3 Mr3 hMr3 hQr3 => ?_)
    refine QP_ite (fun u3 => ?_) (fun u3 => ?_)
    · skip
      exact QP_t2 (hX _ 5 4 _ _ _ (by decide) ⟨Qd_h hQr3 rfl, (show I13 T FN dr (L 1) ∧ (L 3).toNatClampNeg ≤ Mr3 from ⟨hI.1, Nat.le_trans hI.2 (Nat.le_trans (Nat.le_refl _) hMr3)⟩)⟩) rfl
    · skip
      exact QP_t2 (hX _ 5 5 _ _ _ (by decide) ⟨Qd_h hQr3 rfl, (show I13 T FN dr (L 1) ∧ (L 3).toNatClampNeg ≤ Mr3 from ⟨hI.1, Nat.le_trans hI.2 (Nat.le_trans (Nat.le_refl _) hMr3)⟩)⟩) rfl
  · skip
    exact QP_t2 (hX _ 5 4 _ _ _ (by decide) ⟨Qd_h hQ rfl, (show I13 T FN dr (L 1) ∧ (L 3).toNatClampNeg ≤ M from ⟨hI.1, Nat.le_trans hI.2 (Nat.le_refl _)⟩)⟩) rfl
theorem qv_5_4 {X : Nat → Nat → Nat → (Nat → Int32) → MS → Option (Int32 × MS)} (hX : ∀ e m b L (σ : MS) M, m ≠ 9 → Iv T FN dr m b L M σ → QP T FN dr (Qd T FN dr) M σ (X e m b L σ)) (h9 : ∀ e b L (σ : MS) M, Iv T FN dr 9 b L M σ → QP T FN dr (P9 T FN dr) M σ (X e 9 b L σ)) {K d M : Nat} {L : Nat → Int32} {σ : MS} (hJ : Iv T FN dr 5 4 L M σ) : QP T FN dr (Qd T FN dr) M σ (s_former X K d 4 L σ) := by
  obtain ⟨hQ, hI⟩ := (show Qd T FN dr M σ ∧ (I13 T FN dr (L 1) ∧ (L 3).toNatClampNeg ≤ M) from hJ)
  exact QP_t2 (hX _ 5 5 _ _ _ (by decide) ⟨Qd_h hQ rfl, (show I13 T FN dr (L 1) ∧ (L 3).toNatClampNeg ≤ M from ⟨hI.1, Nat.le_trans hI.2 (Nat.le_refl _)⟩)⟩) rfl
theorem qv_5_5 {X : Nat → Nat → Nat → (Nat → Int32) → MS → Option (Int32 × MS)} (hX : ∀ e m b L (σ : MS) M, m ≠ 9 → Iv T FN dr m b L M σ → QP T FN dr (Qd T FN dr) M σ (X e m b L σ)) (h9 : ∀ e b L (σ : MS) M, Iv T FN dr 9 b L M σ → QP T FN dr (P9 T FN dr) M σ (X e 9 b L σ)) {K d M : Nat} {L : Nat → Int32} {σ : MS} (hJ : Iv T FN dr 5 5 L M σ) : QP T FN dr (Qd T FN dr) M σ (s_former X K d 5 L σ) := by
  obtain ⟨hQ, hI⟩ := (show Qd T FN dr M σ ∧ (I13 T FN dr (L 1) ∧ (L 3).toNatClampNeg ≤ M) from hJ)
  exact QP_t2 (hX _ 5 1 _ _ _ (by decide) ⟨Qd_h hQ rfl, (show I13 T FN dr (L 1) ∧ (L 3).toNatClampNeg ≤ M from ⟨hI.1, Nat.le_trans hI.2 (Nat.le_refl _)⟩)⟩) rfl
theorem qv_5_6 {X : Nat → Nat → Nat → (Nat → Int32) → MS → Option (Int32 × MS)} (hX : ∀ e m b L (σ : MS) M, m ≠ 9 → Iv T FN dr m b L M σ → QP T FN dr (Qd T FN dr) M σ (X e m b L σ)) (h9 : ∀ e b L (σ : MS) M, Iv T FN dr 9 b L M σ → QP T FN dr (P9 T FN dr) M σ (X e 9 b L σ)) {K d M : Nat} {L : Nat → Int32} {σ : MS} (hJ : Iv T FN dr 5 6 L M σ) : QP T FN dr (Qd T FN dr) M σ (s_former X K d 6 L σ) := by
  obtain ⟨hQ, hI⟩ := (show Qd T FN dr M σ ∧ (I13 T FN dr (L 1) ∧ (L 3).toNatClampNeg ≤ M) from hJ)
  exact QP_72 rfl hQ hI.2 (fun hQ' => hX _ 5 7 _ _ M (by decide) ⟨hQ', trivial⟩)
theorem qv_5_7 {X : Nat → Nat → Nat → (Nat → Int32) → MS → Option (Int32 × MS)} (hX : ∀ e m b L (σ : MS) M, m ≠ 9 → Iv T FN dr m b L M σ → QP T FN dr (Qd T FN dr) M σ (X e m b L σ)) (h9 : ∀ e b L (σ : MS) M, Iv T FN dr 9 b L M σ → QP T FN dr (P9 T FN dr) M σ (X e 9 b L σ)) {K d M : Nat} {L : Nat → Int32} {σ : MS} (hJ : Iv T FN dr 5 7 L M σ) : QP T FN dr (Qd T FN dr) M σ (s_former X K d 7 L σ) := by
  obtain ⟨hQ, hI⟩ := (show Qd T FN dr M σ ∧ (True) from hJ)
  refine QP_chk (fun u1 => ?_)
  refine QP_ob (kr_clear _ _ _ _) hQ (fun r2 er2 kr2 hQr2 => ?_)
  refine QP_ite (fun u2 => ?_) (fun u2 => ?_)
  · skip
    refine QP_chk (fun u3 => ?_)
    refine QP_ite (fun u4 => ?_) (fun u4 => ?_)
    · skip
      refine QP_ob (kr_setOf _ _ _ _) hQr2 (fun r6 er6 kr6 hQr6 => ?_)
      exact QP_t2 (hX _ 5 9 _ _ _ (by decide) ⟨Qd_h hQr6 rfl, (show True from trivial)⟩) rfl
    · skip
      exact QP_t2 (hX _ 5 8 _ _ _ (by decide) ⟨Qd_h hQr2 rfl, (show True from trivial)⟩) rfl
  · skip
    exact QP_t2 (hX _ 5 10 _ _ _ (by decide) ⟨Qd_h hQr2 rfl, (show True from trivial)⟩) rfl
theorem qv_5_8 {X : Nat → Nat → Nat → (Nat → Int32) → MS → Option (Int32 × MS)} (hX : ∀ e m b L (σ : MS) M, m ≠ 9 → Iv T FN dr m b L M σ → QP T FN dr (Qd T FN dr) M σ (X e m b L σ)) (h9 : ∀ e b L (σ : MS) M, Iv T FN dr 9 b L M σ → QP T FN dr (P9 T FN dr) M σ (X e 9 b L σ)) {K d M : Nat} {L : Nat → Int32} {σ : MS} (hJ : Iv T FN dr 5 8 L M σ) : QP T FN dr (Qd T FN dr) M σ (s_former X K d 8 L σ) := by
  obtain ⟨hQ, hI⟩ := (show Qd T FN dr M σ ∧ (True) from hJ)
  refine QP_ob (kr_tupleOf _ _ _ _) hQ (fun r1 er1 kr1 hQr1 => ?_)
  exact QP_t2 (hX _ 5 9 _ _ _ (by decide) ⟨Qd_h hQr1 rfl, (show True from trivial)⟩) rfl
theorem qv_5_9 {X : Nat → Nat → Nat → (Nat → Int32) → MS → Option (Int32 × MS)} (hX : ∀ e m b L (σ : MS) M, m ≠ 9 → Iv T FN dr m b L M σ → QP T FN dr (Qd T FN dr) M σ (X e m b L σ)) (h9 : ∀ e b L (σ : MS) M, Iv T FN dr 9 b L M σ → QP T FN dr (P9 T FN dr) M σ (X e 9 b L σ)) {K d M : Nat} {L : Nat → Int32} {σ : MS} (hJ : Iv T FN dr 5 9 L M σ) : QP T FN dr (Qd T FN dr) M σ (s_former X K d 9 L σ) := by
  obtain ⟨hQ, hI⟩ := (show Qd T FN dr M σ ∧ (True) from hJ)
  refine QP_ob (kr_answer _ _ _ _) hQ (fun r1 er1 kr1 hQr1 => ?_)
  refine QP_ob (kr_push _ _ _ _) hQr1 (fun r2 er2 kr2 hQr2 => ?_)
  exact QP_t2 (hX _ 5 10 _ _ _ (by decide) ⟨Qd_h hQr2 rfl, (show True from trivial)⟩) rfl
theorem qv_5_10 {X : Nat → Nat → Nat → (Nat → Int32) → MS → Option (Int32 × MS)} (hX : ∀ e m b L (σ : MS) M, m ≠ 9 → Iv T FN dr m b L M σ → QP T FN dr (Qd T FN dr) M σ (X e m b L σ)) (h9 : ∀ e b L (σ : MS) M, Iv T FN dr 9 b L M σ → QP T FN dr (P9 T FN dr) M σ (X e 9 b L σ)) {K d M : Nat} {L : Nat → Int32} {σ : MS} (hJ : Iv T FN dr 5 10 L M σ) : QP T FN dr (Qd T FN dr) M σ (s_former X K d 10 L σ) := by
  obtain ⟨hQ, hI⟩ := (show Qd T FN dr M σ ∧ (True) from hJ)
  exact QP_some (Qd_k rfl hQ) (K0_k rfl)
theorem qv_5 {X : Nat → Nat → Nat → (Nat → Int32) → MS → Option (Int32 × MS)} (hX : ∀ e m b L (σ : MS) M, m ≠ 9 → Iv T FN dr m b L M σ → QP T FN dr (Qd T FN dr) M σ (X e m b L σ)) (h9 : ∀ e b L (σ : MS) M, Iv T FN dr 9 b L M σ → QP T FN dr (P9 T FN dr) M σ (X e 9 b L σ)) {K d M b : Nat} {L : Nat → Int32} {σ : MS} (hJ : Iv T FN dr 5 b L M σ) : QP T FN dr (Qd T FN dr) M σ (s_former X K d b L σ) := by
  match b, hJ with
  | 0, hJ => exact qv_5_0 hX h9 hJ
  | 1, hJ => exact qv_5_1 hX h9 hJ
  | 2, hJ => exact qv_5_2 hX h9 hJ
  | 3, hJ => exact qv_5_3 hX h9 hJ
  | 4, hJ => exact qv_5_4 hX h9 hJ
  | 5, hJ => exact qv_5_5 hX h9 hJ
  | 6, hJ => exact qv_5_6 hX h9 hJ
  | 7, hJ => exact qv_5_7 hX h9 hJ
  | 8, hJ => exact qv_5_8 hX h9 hJ
  | 9, hJ => exact qv_5_9 hX h9 hJ
  | 10, hJ => exact qv_5_10 hX h9 hJ
  | b + 11, _ => exact QP_no
theorem qv_6_0 {X : Nat → Nat → Nat → (Nat → Int32) → MS → Option (Int32 × MS)} (hX : ∀ e m b L (σ : MS) M, m ≠ 9 → Iv T FN dr m b L M σ → QP T FN dr (Qd T FN dr) M σ (X e m b L σ)) (h9 : ∀ e b L (σ : MS) M, Iv T FN dr 9 b L M σ → QP T FN dr (P9 T FN dr) M σ (X e 9 b L σ)) {K d M : Nat} {L : Nat → Int32} {σ : MS} (hJ : Iv T FN dr 6 0 L M σ) : QP T FN dr (Qd T FN dr) M σ (s_goOn X K d 0 L σ) := by
  obtain ⟨hQ, hI⟩ := (show Qd T FN dr M σ ∧ (qN T FN dr 4 (L 2)) from hJ)
  exact QP_t2 (hX _ 6 1 _ _ _ (by decide) ⟨Qd_h hQ rfl, (show qN T FN dr 4 (L 2) from hI)⟩) rfl
theorem qv_6_1 {X : Nat → Nat → Nat → (Nat → Int32) → MS → Option (Int32 × MS)} (hX : ∀ e m b L (σ : MS) M, m ≠ 9 → Iv T FN dr m b L M σ → QP T FN dr (Qd T FN dr) M σ (X e m b L σ)) (h9 : ∀ e b L (σ : MS) M, Iv T FN dr 9 b L M σ → QP T FN dr (P9 T FN dr) M σ (X e 9 b L σ)) {K d M : Nat} {L : Nat → Int32} {σ : MS} (hJ : Iv T FN dr 6 1 L M σ) : QP T FN dr (Qd T FN dr) M σ (s_goOn X K d 1 L σ) := by
  obtain ⟨hQ, hI⟩ := (show Qd T FN dr M σ ∧ (qN T FN dr 4 (L 2)) from hJ)
  refine QP_ite (fun u1 => ?_) (fun u1 => ?_)
  · skip
    refine QP_ob (kr_sweep _ _ _ _) hQ (fun r2 er2 kr2 hQr2 => ?_)
    refine QP_ite (fun u2 => ?_) (fun u2 => ?_)
    · skip
      exact QP_t2 (hX _ 6 6 _ _ _ (by decide) ⟨Qd_h hQr2 rfl, (show qN T FN dr 4 (L 2) from hI)⟩) rfl
    · skip
      refine QP_ite (fun u3 => ?_) (fun u3 => ?_)
      · skip
        exact QP_t2 (hX _ 6 3 _ _ _ (by decide) ⟨Qd_h hQr2 rfl, (show qN T FN dr 4 (L 2) ∧ qN T FN dr 4 ((L 2)) from ⟨hI, hI⟩)⟩) rfl
      · skip
        exact QP_t2 (hX _ 6 2 _ _ _ (by decide) ⟨Qd_h hQr2 rfl, (show qN T FN dr 4 (L 2) from hI)⟩) rfl
  · skip
    exact QP_t2 (hX _ 6 9 _ _ _ (by decide) ⟨Qd_h hQ rfl, (show True from trivial)⟩) rfl
theorem qv_6_2 {X : Nat → Nat → Nat → (Nat → Int32) → MS → Option (Int32 × MS)} (hX : ∀ e m b L (σ : MS) M, m ≠ 9 → Iv T FN dr m b L M σ → QP T FN dr (Qd T FN dr) M σ (X e m b L σ)) (h9 : ∀ e b L (σ : MS) M, Iv T FN dr 9 b L M σ → QP T FN dr (P9 T FN dr) M σ (X e 9 b L σ)) {K d M : Nat} {L : Nat → Int32} {σ : MS} (hJ : Iv T FN dr 6 2 L M σ) : QP T FN dr (Qd T FN dr) M σ (s_goOn X K d 2 L σ) := by
  obtain ⟨hQ, hI⟩ := (show Qd T FN dr M σ ∧ (qN T FN dr 4 (L 2)) from hJ)
  refine QP_chk (fun u1 => ?_)
  refine QP_chk (fun u2 => ?_)
  exact QP_t2 (hX _ 6 3 _ _ _ (by decide) ⟨Qd_h hQ rfl, (show qN T FN dr 4 (L 2) ∧ qN T FN dr 4 ((σ.2.2 9 ((σ.2.2 50 ((((σ.1 72)) - 1)).toNatClampNeg)).toNatClampNeg)) from ⟨hI, by rw [rd hQ ((It_at hQ u1).1) 9 (by decide) (by decide)]; exact (It_at hQ u1).2.2⟩)⟩) rfl
theorem qv_6_3 {X : Nat → Nat → Nat → (Nat → Int32) → MS → Option (Int32 × MS)} (hX : ∀ e m b L (σ : MS) M, m ≠ 9 → Iv T FN dr m b L M σ → QP T FN dr (Qd T FN dr) M σ (X e m b L σ)) (h9 : ∀ e b L (σ : MS) M, Iv T FN dr 9 b L M σ → QP T FN dr (P9 T FN dr) M σ (X e 9 b L σ)) {K d M : Nat} {L : Nat → Int32} {σ : MS} (hJ : Iv T FN dr 6 3 L M σ) : QP T FN dr (Qd T FN dr) M σ (s_goOn X K d 3 L σ) := by
  obtain ⟨hQ, hI⟩ := (show Qd T FN dr M σ ∧ (qN T FN dr 4 (L 2) ∧ qN T FN dr 4 (L 100)) from hJ)
  refine QP_ite (fun u1 => ?_) (fun u1 => ?_)
  · skip
    exact QP_some (Qd_k rfl hQ) (K0_k rfl)
  · skip
    exact QP_t2 (hX _ 6 4 _ _ _ (by decide) ⟨Qd_h hQ rfl, (show qN T FN dr 4 (L 2) ∧ qI1 T FN dr ((L 100)) from ⟨hI.1, (cI hI.2).resolve_left u1⟩)⟩) rfl
theorem qv_6_4 {X : Nat → Nat → Nat → (Nat → Int32) → MS → Option (Int32 × MS)} (hX : ∀ e m b L (σ : MS) M, m ≠ 9 → Iv T FN dr m b L M σ → QP T FN dr (Qd T FN dr) M σ (X e m b L σ)) (h9 : ∀ e b L (σ : MS) M, Iv T FN dr 9 b L M σ → QP T FN dr (P9 T FN dr) M σ (X e 9 b L σ)) {K d M : Nat} {L : Nat → Int32} {σ : MS} (hJ : Iv T FN dr 6 4 L M σ) : QP T FN dr (Qd T FN dr) M σ (s_goOn X K d 4 L σ) := by
  obtain ⟨hQ, hI⟩ := (show Qd T FN dr M σ ∧ (qN T FN dr 4 (L 2) ∧ qI1 T FN dr (L 5)) from hJ)
  refine QP_od (fun e1 => ?_)
  refine QP_o9 (h9 _ 0 _ _ _ ⟨hQ, (show I9 T FN dr ((L 5)) from ⟨hI.2.1, hI.2.2.1⟩)⟩) (fun r1 Mr1 hMr1 hQr1 => ?_)
  refine QP_ite (fun u1 => ?_) (fun u1 => ?_)
  · skip
    exact hX _ 6 5 _ _ _ (by decide) ⟨Qd9_o hQr1, hI⟩
  · skip
    exact QP_some (hQr1.resolve_right (fun z => u1 z.1)) (K0_k rfl)
theorem qv_6_5 {X : Nat → Nat → Nat → (Nat → Int32) → MS → Option (Int32 × MS)} (hX : ∀ e m b L (σ : MS) M, m ≠ 9 → Iv T FN dr m b L M σ → QP T FN dr (Qd T FN dr) M σ (X e m b L σ)) (h9 : ∀ e b L (σ : MS) M, Iv T FN dr 9 b L M σ → QP T FN dr (P9 T FN dr) M σ (X e 9 b L σ)) {K d M : Nat} {L : Nat → Int32} {σ : MS} (hJ : Iv T FN dr 6 5 L M σ) : QP T FN dr (Qd T FN dr) M σ (s_goOn X K d 5 L σ) := by
  obtain ⟨hQ, hI⟩ := (show Qd9 T FN dr M σ ∧ (qN T FN dr 4 (L 2) ∧ qI1 T FN dr (L 5)) from hJ)
  refine QP_chk (fun u1 => ?_)
  exact QP_it rfl hQ hI.2 u1 (fun M' hM' hQ' => hX _ 6 7 _ _ M' (by decide) ⟨hQ', hI.1⟩)
theorem qv_6_6 {X : Nat → Nat → Nat → (Nat → Int32) → MS → Option (Int32 × MS)} (hX : ∀ e m b L (σ : MS) M, m ≠ 9 → Iv T FN dr m b L M σ → QP T FN dr (Qd T FN dr) M σ (X e m b L σ)) (h9 : ∀ e b L (σ : MS) M, Iv T FN dr 9 b L M σ → QP T FN dr (P9 T FN dr) M σ (X e 9 b L σ)) {K d M : Nat} {L : Nat → Int32} {σ : MS} (hJ : Iv T FN dr 6 6 L M σ) : QP T FN dr (Qd T FN dr) M σ (s_goOn X K d 6 L σ) := by
  obtain ⟨hQ, hI⟩ := (show Qd T FN dr M σ ∧ (qN T FN dr 4 (L 2)) from hJ)
  refine QP_ite (fun u1 => ?_) (fun u1 => ?_)
  · skip
    exact QP_some (Qd_k rfl hQ) (K0_k rfl)
  · skip
    exact QP_t2 (hX _ 6 7 _ _ _ (by decide) ⟨Qd_h hQ rfl, (show qN T FN dr 4 (L 2) from hI)⟩) rfl
theorem qv_6_7 {X : Nat → Nat → Nat → (Nat → Int32) → MS → Option (Int32 × MS)} (hX : ∀ e m b L (σ : MS) M, m ≠ 9 → Iv T FN dr m b L M σ → QP T FN dr (Qd T FN dr) M σ (X e m b L σ)) (h9 : ∀ e b L (σ : MS) M, Iv T FN dr 9 b L M σ → QP T FN dr (P9 T FN dr) M σ (X e 9 b L σ)) {K d M : Nat} {L : Nat → Int32} {σ : MS} (hJ : Iv T FN dr 6 7 L M σ) : QP T FN dr (Qd T FN dr) M σ (s_goOn X K d 7 L σ) := by
  obtain ⟨hQ, hI⟩ := (show Qd T FN dr M σ ∧ (qN T FN dr 4 (L 2)) from hJ)
  refine QP_chk (fun u1 => ?_)
  refine QP_ob (kr_stepIter _ _ _ _) hQ (fun r2 er2 kr2 hQr2 => ?_)
  refine QP_ite (fun u2 => ?_) (fun u2 => ?_)
  · skip
    refine QP_ite (fun u3 => ?_) (fun u3 => ?_)
    · skip
      exact QP_72 rfl hQr2 (by rw [(kr_a kr2).2.2.2.1]; have e := cl_dn u1; have := hQ.2.2.1; omega) (fun hQ' => hX _ 6 8 _ _ M (by decide) ⟨hQ', hI⟩)
    · skip
      exact QP_t2 (hX _ 6 8 _ _ _ (by decide) ⟨Qd_h hQr2 rfl, (show qN T FN dr 4 (L 2) from hI)⟩) rfl
  · skip
    exact QP_t2 (hX _ 6 8 _ _ _ (by decide) ⟨Qd_h hQr2 rfl, (show qN T FN dr 4 (L 2) from hI)⟩) rfl
theorem qv_6_8 {X : Nat → Nat → Nat → (Nat → Int32) → MS → Option (Int32 × MS)} (hX : ∀ e m b L (σ : MS) M, m ≠ 9 → Iv T FN dr m b L M σ → QP T FN dr (Qd T FN dr) M σ (X e m b L σ)) (h9 : ∀ e b L (σ : MS) M, Iv T FN dr 9 b L M σ → QP T FN dr (P9 T FN dr) M σ (X e 9 b L σ)) {K d M : Nat} {L : Nat → Int32} {σ : MS} (hJ : Iv T FN dr 6 8 L M σ) : QP T FN dr (Qd T FN dr) M σ (s_goOn X K d 8 L σ) := by
  obtain ⟨hQ, hI⟩ := (show Qd T FN dr M σ ∧ (qN T FN dr 4 (L 2)) from hJ)
  refine QP_ite (fun u1 => ?_) (fun u1 => ?_)
  · skip
    exact QP_t2 (hX _ 6 1 _ _ _ (by decide) ⟨Qd_h hQ rfl, (show qN T FN dr 4 (L 2) from hI)⟩) rfl
  · skip
    refine QP_chk (fun u2 => ?_)
    refine QP_chk (fun u3 => ?_)
    refine QP_ite (fun u4 => ?_) (fun u4 => ?_)
    · skip
      exact QP_some (Qd_k rfl hQ) (K0_k rfl)
    · skip
      exact QP_t2 (hX _ 6 1 _ _ _ (by decide) ⟨Qd_h hQ rfl, (show qN T FN dr 4 (L 2) from hI)⟩) rfl
theorem qv_6_9 {X : Nat → Nat → Nat → (Nat → Int32) → MS → Option (Int32 × MS)} (hX : ∀ e m b L (σ : MS) M, m ≠ 9 → Iv T FN dr m b L M σ → QP T FN dr (Qd T FN dr) M σ (X e m b L σ)) (h9 : ∀ e b L (σ : MS) M, Iv T FN dr 9 b L M σ → QP T FN dr (P9 T FN dr) M σ (X e 9 b L σ)) {K d M : Nat} {L : Nat → Int32} {σ : MS} (hJ : Iv T FN dr 6 9 L M σ) : QP T FN dr (Qd T FN dr) M σ (s_goOn X K d 9 L σ) := by
  obtain ⟨hQ, hI⟩ := (show Qd T FN dr M σ ∧ (True) from hJ)
  exact QP_some (Qd_k rfl hQ) (K0_k rfl)
theorem qv_6 {X : Nat → Nat → Nat → (Nat → Int32) → MS → Option (Int32 × MS)} (hX : ∀ e m b L (σ : MS) M, m ≠ 9 → Iv T FN dr m b L M σ → QP T FN dr (Qd T FN dr) M σ (X e m b L σ)) (h9 : ∀ e b L (σ : MS) M, Iv T FN dr 9 b L M σ → QP T FN dr (P9 T FN dr) M σ (X e 9 b L σ)) {K d M b : Nat} {L : Nat → Int32} {σ : MS} (hJ : Iv T FN dr 6 b L M σ) : QP T FN dr (Qd T FN dr) M σ (s_goOn X K d b L σ) := by
  match b, hJ with
  | 0, hJ => exact qv_6_0 hX h9 hJ
  | 1, hJ => exact qv_6_1 hX h9 hJ
  | 2, hJ => exact qv_6_2 hX h9 hJ
  | 3, hJ => exact qv_6_3 hX h9 hJ
  | 4, hJ => exact qv_6_4 hX h9 hJ
  | 5, hJ => exact qv_6_5 hX h9 hJ
  | 6, hJ => exact qv_6_6 hX h9 hJ
  | 7, hJ => exact qv_6_7 hX h9 hJ
  | 8, hJ => exact qv_6_8 hX h9 hJ
  | 9, hJ => exact qv_6_9 hX h9 hJ
  | b + 10, _ => exact QP_no
theorem qv_7_0 {X : Nat → Nat → Nat → (Nat → Int32) → MS → Option (Int32 × MS)} (hX : ∀ e m b L (σ : MS) M, m ≠ 9 → Iv T FN dr m b L M σ → QP T FN dr (Qd T FN dr) M σ (X e m b L σ)) (h9 : ∀ e b L (σ : MS) M, Iv T FN dr 9 b L M σ → QP T FN dr (P9 T FN dr) M σ (X e 9 b L σ)) {K d M : Nat} {L : Nat → Int32} {σ : MS} (hJ : Iv T FN dr 7 0 L M σ) : QP T FN dr (Qd T FN dr) M σ (s_goesOn X K d 0 L σ) := by
  obtain ⟨hQ, hI⟩ := (show Qd T FN dr M σ ∧ (qN T FN dr 2 (L 1)) from hJ)
  refine QP_chk (fun u1 => ?_)
  refine QP_ite (fun u2 => ?_) (fun u2 => ?_)
  · skip
    exact QP_some (Qd_k rfl hQ) (K0_k rfl)
  · skip
    exact QP_t2 (hX _ 7 1 _ _ _ (by decide) ⟨Qd_h hQ rfl, (show I7 T FN dr (L 1) ((σ.2.2 4 ((L 1)).toNatClampNeg)) from by rw [rd hQ (qG_nd hI) 4 (by decide) (by decide)]; exact c7 hI (by rw [← rd hQ (qG_nd hI) 4 (by decide) (by decide)]; exact u2))⟩) rfl
theorem qv_7_1 {X : Nat → Nat → Nat → (Nat → Int32) → MS → Option (Int32 × MS)} (hX : ∀ e m b L (σ : MS) M, m ≠ 9 → Iv T FN dr m b L M σ → QP T FN dr (Qd T FN dr) M σ (X e m b L σ)) (h9 : ∀ e b L (σ : MS) M, Iv T FN dr 9 b L M σ → QP T FN dr (P9 T FN dr) M σ (X e 9 b L σ)) {K d M : Nat} {L : Nat → Int32} {σ : MS} (hJ : Iv T FN dr 7 1 L M σ) : QP T FN dr (Qd T FN dr) M σ (s_goesOn X K d 1 L σ) := by
  obtain ⟨hQ, hI⟩ := (show Qd T FN dr M σ ∧ (I7 T FN dr (L 1) (L 2)) from hJ)
  refine QP_ite (fun u1 => ?_) (fun u1 => ?_)
  · skip
    exact QP_t2 (hX _ 7 2 _ _ _ (by decide) ⟨Qd_h hQ rfl, (show I7 T FN dr (L 1) (L 2) from hI)⟩) rfl
  · skip
    refine QP_ite (fun u2 => ?_) (fun u2 => ?_)
    · skip
      exact QP_t2 (hX _ 7 2 _ _ _ (by decide) ⟨Qd_h hQ rfl, (show I7 T FN dr (L 1) (L 2) from hI)⟩) rfl
    · skip
      exact QP_t2 (hX _ 7 8 _ _ _ (by decide) ⟨Qd_h hQ rfl, (show I7 T FN dr (L 1) (L 2) from hI)⟩) rfl
theorem qv_7_2 {X : Nat → Nat → Nat → (Nat → Int32) → MS → Option (Int32 × MS)} (hX : ∀ e m b L (σ : MS) M, m ≠ 9 → Iv T FN dr m b L M σ → QP T FN dr (Qd T FN dr) M σ (X e m b L σ)) (h9 : ∀ e b L (σ : MS) M, Iv T FN dr 9 b L M σ → QP T FN dr (P9 T FN dr) M σ (X e 9 b L σ)) {K d M : Nat} {L : Nat → Int32} {σ : MS} (hJ : Iv T FN dr 7 2 L M σ) : QP T FN dr (Qd T FN dr) M σ (s_goesOn X K d 2 L σ) := by
  obtain ⟨hQ, hI⟩ := (show Qd T FN dr M σ ∧ (I7 T FN dr (L 1) (L 2)) from hJ)
  refine QP_ob (kr_isTrue _ _ _ _) hQ (fun r1 er1 kr1 hQr1 => ?_)
  refine QP_ite (fun u1 => ?_) (fun u1 => ?_)
  · skip
    refine QP_ite (fun u2 => ?_) (fun u2 => ?_)
    · skip
      exact QP_t2 (hX _ 7 4 _ _ _ (by decide) ⟨Qd_h hQr1 rfl, (show I7 T FN dr (L 1) (L 2) from hI)⟩) rfl
    · skip
      exact QP_t2 (hX _ 7 3 _ _ _ (by decide) ⟨Qd_h hQr1 rfl, (show I7 T FN dr (L 1) (L 2) from hI)⟩) rfl
  · skip
    exact QP_t2 (hX _ 7 7 _ _ _ (by decide) ⟨Qd_h hQr1 rfl, (show I7 T FN dr (L 1) (L 2) from hI)⟩) rfl
theorem qv_7_3 {X : Nat → Nat → Nat → (Nat → Int32) → MS → Option (Int32 × MS)} (hX : ∀ e m b L (σ : MS) M, m ≠ 9 → Iv T FN dr m b L M σ → QP T FN dr (Qd T FN dr) M σ (X e m b L σ)) (h9 : ∀ e b L (σ : MS) M, Iv T FN dr 9 b L M σ → QP T FN dr (P9 T FN dr) M σ (X e 9 b L σ)) {K d M : Nat} {L : Nat → Int32} {σ : MS} (hJ : Iv T FN dr 7 3 L M σ) : QP T FN dr (Qd T FN dr) M σ (s_goesOn X K d 3 L σ) := by
  obtain ⟨hQ, hI⟩ := (show Qd T FN dr M σ ∧ (I7 T FN dr (L 1) (L 2)) from hJ)
  exact QP_t2 (hX _ 7 4 _ _ _ (by decide) ⟨Qd_h hQ rfl, (show I7 T FN dr (L 1) (L 2) from hI)⟩) rfl
theorem qv_7_4 {X : Nat → Nat → Nat → (Nat → Int32) → MS → Option (Int32 × MS)} (hX : ∀ e m b L (σ : MS) M, m ≠ 9 → Iv T FN dr m b L M σ → QP T FN dr (Qd T FN dr) M σ (X e m b L σ)) (h9 : ∀ e b L (σ : MS) M, Iv T FN dr 9 b L M σ → QP T FN dr (P9 T FN dr) M σ (X e 9 b L σ)) {K d M : Nat} {L : Nat → Int32} {σ : MS} (hJ : Iv T FN dr 7 4 L M σ) : QP T FN dr (Qd T FN dr) M σ (s_goesOn X K d 4 L σ) := by
  obtain ⟨hQ, hI⟩ := (show Qd T FN dr M σ ∧ (I7 T FN dr (L 1) (L 2)) from hJ)
  refine QP_ite (fun u1 => ?_) (fun u1 => ?_)
  · skip
    refine QP_chk (fun u2 => ?_)
    refine QP_od (fun e3 => ?_)
    refine QP_oX (hX _ 4 0 _ _ _ (by decide) ⟨hQ, (show qN T FN dr 0 ((σ.2.2 7 ((L 1)).toNatClampNeg)) from by rw [rd hQ (hI.1) 7 (by decide) (by decide)]; exact hI.2.1)⟩) (fun r3 Mr3 hMr3 hQr3 => ?_)
    refine QP_ite (fun u3 => ?_) (fun u3 => ?_)
    · skip
      refine QP_ob (kr_isTrue _ _ _ _) hQr3 (fun r5 er5 kr5 hQr5 => ?_)
      refine QP_ite (fun u4 => ?_) (fun u4 => ?_)
      · skip
        exact QP_t2 (hX _ 7 5 _ _ _ (by decide) ⟨Qd_h hQr5 rfl, (show I7 T FN dr (L 1) (L 2) from hI)⟩) rfl
      · skip
        exact QP_t2 (hX _ 7 6 _ _ _ (by decide) ⟨Qd_h hQr5 rfl, (show I7 T FN dr (L 1) (L 2) from hI)⟩) rfl
    · skip
      exact QP_t2 (hX _ 7 5 _ _ _ (by decide) ⟨Qd_h hQr3 rfl, (show I7 T FN dr (L 1) (L 2) from hI)⟩) rfl
  · skip
    exact QP_t2 (hX _ 7 7 _ _ _ (by decide) ⟨Qd_h hQ rfl, (show I7 T FN dr (L 1) (L 2) from hI)⟩) rfl
theorem qv_7_5 {X : Nat → Nat → Nat → (Nat → Int32) → MS → Option (Int32 × MS)} (hX : ∀ e m b L (σ : MS) M, m ≠ 9 → Iv T FN dr m b L M σ → QP T FN dr (Qd T FN dr) M σ (X e m b L σ)) (h9 : ∀ e b L (σ : MS) M, Iv T FN dr 9 b L M σ → QP T FN dr (P9 T FN dr) M σ (X e 9 b L σ)) {K d M : Nat} {L : Nat → Int32} {σ : MS} (hJ : Iv T FN dr 7 5 L M σ) : QP T FN dr (Qd T FN dr) M σ (s_goesOn X K d 5 L σ) := by
  obtain ⟨hQ, hI⟩ := (show Qd T FN dr M σ ∧ (I7 T FN dr (L 1) (L 2)) from hJ)
  exact QP_t2 (hX _ 7 6 _ _ _ (by decide) ⟨Qd_h hQ rfl, (show I7 T FN dr (L 1) (L 2) from hI)⟩) rfl
theorem qv_7_6 {X : Nat → Nat → Nat → (Nat → Int32) → MS → Option (Int32 × MS)} (hX : ∀ e m b L (σ : MS) M, m ≠ 9 → Iv T FN dr m b L M σ → QP T FN dr (Qd T FN dr) M σ (X e m b L σ)) (h9 : ∀ e b L (σ : MS) M, Iv T FN dr 9 b L M σ → QP T FN dr (P9 T FN dr) M σ (X e 9 b L σ)) {K d M : Nat} {L : Nat → Int32} {σ : MS} (hJ : Iv T FN dr 7 6 L M σ) : QP T FN dr (Qd T FN dr) M σ (s_goesOn X K d 6 L σ) := by
  obtain ⟨hQ, hI⟩ := (show Qd T FN dr M σ ∧ (I7 T FN dr (L 1) (L 2)) from hJ)
  exact QP_t2 (hX _ 7 7 _ _ _ (by decide) ⟨Qd_h hQ rfl, (show I7 T FN dr (L 1) (L 2) from hI)⟩) rfl
theorem qv_7_7 {X : Nat → Nat → Nat → (Nat → Int32) → MS → Option (Int32 × MS)} (hX : ∀ e m b L (σ : MS) M, m ≠ 9 → Iv T FN dr m b L M σ → QP T FN dr (Qd T FN dr) M σ (X e m b L σ)) (h9 : ∀ e b L (σ : MS) M, Iv T FN dr 9 b L M σ → QP T FN dr (P9 T FN dr) M σ (X e 9 b L σ)) {K d M : Nat} {L : Nat → Int32} {σ : MS} (hJ : Iv T FN dr 7 7 L M σ) : QP T FN dr (Qd T FN dr) M σ (s_goesOn X K d 7 L σ) := by
  obtain ⟨hQ, hI⟩ := (show Qd T FN dr M σ ∧ (I7 T FN dr (L 1) (L 2)) from hJ)
  refine QP_ob (kr_truth _ _ _ _) hQ (fun r1 er1 kr1 hQr1 => ?_)
  refine QP_ob (kr_answer _ _ _ _) hQr1 (fun r2 er2 kr2 hQr2 => ?_)
  refine QP_ob (kr_push _ _ _ _) hQr2 (fun r3 er3 kr3 hQr3 => ?_)
  exact QP_some (Qd_k rfl hQr3) (K0_k rfl)
theorem qv_7_8 {X : Nat → Nat → Nat → (Nat → Int32) → MS → Option (Int32 × MS)} (hX : ∀ e m b L (σ : MS) M, m ≠ 9 → Iv T FN dr m b L M σ → QP T FN dr (Qd T FN dr) M σ (X e m b L σ)) (h9 : ∀ e b L (σ : MS) M, Iv T FN dr 9 b L M σ → QP T FN dr (P9 T FN dr) M σ (X e 9 b L σ)) {K d M : Nat} {L : Nat → Int32} {σ : MS} (hJ : Iv T FN dr 7 8 L M σ) : QP T FN dr (Qd T FN dr) M σ (s_goesOn X K d 8 L σ) := by
  obtain ⟨hQ, hI⟩ := (show Qd T FN dr M σ ∧ (I7 T FN dr (L 1) (L 2)) from hJ)
  refine QP_chk (fun u1 => ?_)
  refine QP_od (fun e2 => ?_)
  refine QP_oX (hX _ 4 0 _ _ _ (by decide) ⟨hQ, (show qN T FN dr 0 ((σ.2.2 7 ((L 1)).toNatClampNeg)) from by rw [rd hQ (hI.1) 7 (by decide) (by decide)]; exact hI.2.1)⟩) (fun r2 Mr2 hMr2 hQr2 => ?_)
  refine QP_ite (fun u2 => ?_) (fun u2 => ?_)
  · skip
    refine QP_ite (fun u3 => ?_) (fun u3 => ?_)
    · skip
      refine QP_chk (fun u4 => ?_)
      refine QP_od (fun e6 => ?_)
      refine QP_oX (hX _ 4 0 _ _ _ (by decide) ⟨hQr2, (show qN T FN dr 0 ((r2.2.2.2 8 ((L 1)).toNatClampNeg)) from by rw [rd hQr2 (hI.1) 8 (by decide) (by decide)]; exact hI.2.2 u2)⟩) (fun r6 Mr6 hMr6 hQr6 => ?_)
      exact QP_t2 (hX _ 7 9 _ _ _ (by decide) ⟨Qd_h hQr6 rfl, (show True from trivial)⟩) rfl
    · skip
      exact QP_t2 (hX _ 7 9 _ _ _ (by decide) ⟨Qd_h hQr2 rfl, (show True from trivial)⟩) rfl
  · skip
    exact QP_t2 (hX _ 7 9 _ _ _ (by decide) ⟨Qd_h hQr2 rfl, (show True from trivial)⟩) rfl
theorem qv_7_9 {X : Nat → Nat → Nat → (Nat → Int32) → MS → Option (Int32 × MS)} (hX : ∀ e m b L (σ : MS) M, m ≠ 9 → Iv T FN dr m b L M σ → QP T FN dr (Qd T FN dr) M σ (X e m b L σ)) (h9 : ∀ e b L (σ : MS) M, Iv T FN dr 9 b L M σ → QP T FN dr (P9 T FN dr) M σ (X e 9 b L σ)) {K d M : Nat} {L : Nat → Int32} {σ : MS} (hJ : Iv T FN dr 7 9 L M σ) : QP T FN dr (Qd T FN dr) M σ (s_goesOn X K d 9 L σ) := by
  obtain ⟨hQ, hI⟩ := (show Qd T FN dr M σ ∧ (True) from hJ)
  refine QP_ite (fun u1 => ?_) (fun u1 => ?_)
  · skip
    exact QP_t2 (hX _ 7 10 _ _ _ (by decide) ⟨Qd_h hQ rfl, (show True from trivial)⟩) rfl
  · skip
    exact QP_some (Qd_k rfl hQ) (K0_k rfl)
theorem qv_7_10 {X : Nat → Nat → Nat → (Nat → Int32) → MS → Option (Int32 × MS)} (hX : ∀ e m b L (σ : MS) M, m ≠ 9 → Iv T FN dr m b L M σ → QP T FN dr (Qd T FN dr) M σ (X e m b L σ)) (h9 : ∀ e b L (σ : MS) M, Iv T FN dr 9 b L M σ → QP T FN dr (P9 T FN dr) M σ (X e 9 b L σ)) {K d M : Nat} {L : Nat → Int32} {σ : MS} (hJ : Iv T FN dr 7 10 L M σ) : QP T FN dr (Qd T FN dr) M σ (s_goesOn X K d 10 L σ) := by
  obtain ⟨hQ, hI⟩ := (show Qd T FN dr M σ ∧ (True) from hJ)
  refine QP_ob (kr_sweep _ _ _ _) hQ (fun r1 er1 kr1 hQr1 => ?_)
  refine QP_ite (fun u1 => ?_) (fun u1 => ?_)
  · skip
    exact QP_t2 (hX _ 7 12 _ _ _ (by decide) ⟨Qd_h hQr1 rfl, (show True from trivial)⟩) rfl
  · skip
    exact QP_t2 (hX _ 7 11 _ _ _ (by decide) ⟨Qd_h hQr1 rfl, (show True from trivial)⟩) rfl
theorem qv_7_11 {X : Nat → Nat → Nat → (Nat → Int32) → MS → Option (Int32 × MS)} (hX : ∀ e m b L (σ : MS) M, m ≠ 9 → Iv T FN dr m b L M σ → QP T FN dr (Qd T FN dr) M σ (X e m b L σ)) (h9 : ∀ e b L (σ : MS) M, Iv T FN dr 9 b L M σ → QP T FN dr (P9 T FN dr) M σ (X e 9 b L σ)) {K d M : Nat} {L : Nat → Int32} {σ : MS} (hJ : Iv T FN dr 7 11 L M σ) : QP T FN dr (Qd T FN dr) M σ (s_goesOn X K d 11 L σ) := by
  obtain ⟨hQ, hI⟩ := (show Qd T FN dr M σ ∧ (True) from hJ)
  exact QP_t2 (hX _ 7 12 _ _ _ (by decide) ⟨Qd_h hQ rfl, (show True from trivial)⟩) rfl
theorem qv_7_12 {X : Nat → Nat → Nat → (Nat → Int32) → MS → Option (Int32 × MS)} (hX : ∀ e m b L (σ : MS) M, m ≠ 9 → Iv T FN dr m b L M σ → QP T FN dr (Qd T FN dr) M σ (X e m b L σ)) (h9 : ∀ e b L (σ : MS) M, Iv T FN dr 9 b L M σ → QP T FN dr (P9 T FN dr) M σ (X e 9 b L σ)) {K d M : Nat} {L : Nat → Int32} {σ : MS} (hJ : Iv T FN dr 7 12 L M σ) : QP T FN dr (Qd T FN dr) M σ (s_goesOn X K d 12 L σ) := by
  obtain ⟨hQ, hI⟩ := (show Qd T FN dr M σ ∧ (True) from hJ)
  exact QP_t2 (hX _ 7 13 _ _ _ (by decide) ⟨Qd_h hQ rfl, (show True from trivial)⟩) rfl
theorem qv_7_13 {X : Nat → Nat → Nat → (Nat → Int32) → MS → Option (Int32 × MS)} (hX : ∀ e m b L (σ : MS) M, m ≠ 9 → Iv T FN dr m b L M σ → QP T FN dr (Qd T FN dr) M σ (X e m b L σ)) (h9 : ∀ e b L (σ : MS) M, Iv T FN dr 9 b L M σ → QP T FN dr (P9 T FN dr) M σ (X e 9 b L σ)) {K d M : Nat} {L : Nat → Int32} {σ : MS} (hJ : Iv T FN dr 7 13 L M σ) : QP T FN dr (Qd T FN dr) M σ (s_goesOn X K d 13 L σ) := by
  obtain ⟨hQ, hI⟩ := (show Qd T FN dr M σ ∧ (True) from hJ)
  refine QP_chk (fun u1 => ?_)
  refine QP_chk (fun u2 => ?_)
  refine QP_ite (fun u3 => ?_) (fun u3 => ?_)
  · skip
    exact QP_t2 (hX _ 7 15 _ _ _ (by decide) ⟨Qd_h hQ rfl, (show True from trivial)⟩) rfl
  · skip
    refine QP_ite (fun u4 => ?_) (fun u4 => ?_)
    · skip
      exact QP_t2 (hX _ 7 14 _ _ _ (by decide) ⟨Qd_h hQ rfl, (show True from trivial)⟩) rfl
    · skip
      refine QP_ite (fun u5 => ?_) (fun u5 => ?_)
      · skip
        exact QP_t2 (hX _ 7 16 _ _ _ (by decide) ⟨Qd_h hQ rfl, (show True from trivial)⟩) rfl
      · skip
        exact QP_t2 (hX _ 7 17 _ _ _ (by decide) ⟨Qd_h hQ rfl, (show True from trivial)⟩) rfl
theorem qv_7_14 {X : Nat → Nat → Nat → (Nat → Int32) → MS → Option (Int32 × MS)} (hX : ∀ e m b L (σ : MS) M, m ≠ 9 → Iv T FN dr m b L M σ → QP T FN dr (Qd T FN dr) M σ (X e m b L σ)) (h9 : ∀ e b L (σ : MS) M, Iv T FN dr 9 b L M σ → QP T FN dr (P9 T FN dr) M σ (X e 9 b L σ)) {K d M : Nat} {L : Nat → Int32} {σ : MS} (hJ : Iv T FN dr 7 14 L M σ) : QP T FN dr (Qd T FN dr) M σ (s_goesOn X K d 14 L σ) := by
  obtain ⟨hQ, hI⟩ := (show Qd T FN dr M σ ∧ (True) from hJ)
  refine QP_chk (fun u1 => ?_)
  refine QP_ob (kr_slice _ _ _ _) hQ (fun r2 er2 kr2 hQr2 => ?_)
  exact QP_t2 (hX _ 7 18 _ _ _ (by decide) ⟨Qd_h hQr2 rfl, (show True from trivial)⟩) rfl
theorem qv_7_15 {X : Nat → Nat → Nat → (Nat → Int32) → MS → Option (Int32 × MS)} (hX : ∀ e m b L (σ : MS) M, m ≠ 9 → Iv T FN dr m b L M σ → QP T FN dr (Qd T FN dr) M σ (X e m b L σ)) (h9 : ∀ e b L (σ : MS) M, Iv T FN dr 9 b L M σ → QP T FN dr (P9 T FN dr) M σ (X e 9 b L σ)) {K d M : Nat} {L : Nat → Int32} {σ : MS} (hJ : Iv T FN dr 7 15 L M σ) : QP T FN dr (Qd T FN dr) M σ (s_goesOn X K d 15 L σ) := by
  obtain ⟨hQ, hI⟩ := (show Qd T FN dr M σ ∧ (True) from hJ)
  refine QP_ob (kr_partAt _ _ _ _) hQ (fun r1 er1 kr1 hQr1 => ?_)
  exact QP_t2 (hX _ 7 18 _ _ _ (by decide) ⟨Qd_h hQr1 rfl, (show True from trivial)⟩) rfl
theorem qv_7_16 {X : Nat → Nat → Nat → (Nat → Int32) → MS → Option (Int32 × MS)} (hX : ∀ e m b L (σ : MS) M, m ≠ 9 → Iv T FN dr m b L M σ → QP T FN dr (Qd T FN dr) M σ (X e m b L σ)) (h9 : ∀ e b L (σ : MS) M, Iv T FN dr 9 b L M σ → QP T FN dr (P9 T FN dr) M σ (X e 9 b L σ)) {K d M : Nat} {L : Nat → Int32} {σ : MS} (hJ : Iv T FN dr 7 16 L M σ) : QP T FN dr (Qd T FN dr) M σ (s_goesOn X K d 16 L σ) := by
  obtain ⟨hQ, hI⟩ := (show Qd T FN dr M σ ∧ (True) from hJ)
  refine QP_ob (kr_image _ _ _ _) hQ (fun r1 er1 kr1 hQr1 => ?_)
  exact QP_t2 (hX _ 7 18 _ _ _ (by decide) ⟨Qd_h hQr1 rfl, (show True from trivial)⟩) rfl
theorem qv_7_17 {X : Nat → Nat → Nat → (Nat → Int32) → MS → Option (Int32 × MS)} (hX : ∀ e m b L (σ : MS) M, m ≠ 9 → Iv T FN dr m b L M σ → QP T FN dr (Qd T FN dr) M σ (X e m b L σ)) (h9 : ∀ e b L (σ : MS) M, Iv T FN dr 9 b L M σ → QP T FN dr (P9 T FN dr) M σ (X e 9 b L σ)) {K d M : Nat} {L : Nat → Int32} {σ : MS} (hJ : Iv T FN dr 7 17 L M σ) : QP T FN dr (Qd T FN dr) M σ (s_goesOn X K d 17 L σ) := by
  obtain ⟨hQ, hI⟩ := (show Qd T FN dr M σ ∧ (True) from hJ)
  refine QP_chk (fun u1 => ?_)
  refine QP_ob (kr_operate _ _ _ _) hQ (fun r2 er2 kr2 hQr2 => ?_)
  exact QP_t2 (hX _ 7 18 _ _ _ (by decide) ⟨Qd_h hQr2 rfl, (show True from trivial)⟩) rfl
theorem qv_7_18 {X : Nat → Nat → Nat → (Nat → Int32) → MS → Option (Int32 × MS)} (hX : ∀ e m b L (σ : MS) M, m ≠ 9 → Iv T FN dr m b L M σ → QP T FN dr (Qd T FN dr) M σ (X e m b L σ)) (h9 : ∀ e b L (σ : MS) M, Iv T FN dr 9 b L M σ → QP T FN dr (P9 T FN dr) M σ (X e 9 b L σ)) {K d M : Nat} {L : Nat → Int32} {σ : MS} (hJ : Iv T FN dr 7 18 L M σ) : QP T FN dr (Qd T FN dr) M σ (s_goesOn X K d 18 L σ) := by
  obtain ⟨hQ, hI⟩ := (show Qd T FN dr M σ ∧ (True) from hJ)
  refine QP_ob (kr_answer _ _ _ _) hQ (fun r1 er1 kr1 hQr1 => ?_)
  refine QP_ob (kr_push _ _ _ _) hQr1 (fun r2 er2 kr2 hQr2 => ?_)
  exact QP_some (Qd_k rfl hQr2) (K0_k rfl)
theorem qv_7 {X : Nat → Nat → Nat → (Nat → Int32) → MS → Option (Int32 × MS)} (hX : ∀ e m b L (σ : MS) M, m ≠ 9 → Iv T FN dr m b L M σ → QP T FN dr (Qd T FN dr) M σ (X e m b L σ)) (h9 : ∀ e b L (σ : MS) M, Iv T FN dr 9 b L M σ → QP T FN dr (P9 T FN dr) M σ (X e 9 b L σ)) {K d M b : Nat} {L : Nat → Int32} {σ : MS} (hJ : Iv T FN dr 7 b L M σ) : QP T FN dr (Qd T FN dr) M σ (s_goesOn X K d b L σ) := by
  match b, hJ with
  | 0, hJ => exact qv_7_0 hX h9 hJ
  | 1, hJ => exact qv_7_1 hX h9 hJ
  | 2, hJ => exact qv_7_2 hX h9 hJ
  | 3, hJ => exact qv_7_3 hX h9 hJ
  | 4, hJ => exact qv_7_4 hX h9 hJ
  | 5, hJ => exact qv_7_5 hX h9 hJ
  | 6, hJ => exact qv_7_6 hX h9 hJ
  | 7, hJ => exact qv_7_7 hX h9 hJ
  | 8, hJ => exact qv_7_8 hX h9 hJ
  | 9, hJ => exact qv_7_9 hX h9 hJ
  | 10, hJ => exact qv_7_10 hX h9 hJ
  | 11, hJ => exact qv_7_11 hX h9 hJ
  | 12, hJ => exact qv_7_12 hX h9 hJ
  | 13, hJ => exact qv_7_13 hX h9 hJ
  | 14, hJ => exact qv_7_14 hX h9 hJ
  | 15, hJ => exact qv_7_15 hX h9 hJ
  | 16, hJ => exact qv_7_16 hX h9 hJ
  | 17, hJ => exact qv_7_17 hX h9 hJ
  | 18, hJ => exact qv_7_18 hX h9 hJ
  | b + 19, _ => exact QP_no
theorem qv_8_0 {X : Nat → Nat → Nat → (Nat → Int32) → MS → Option (Int32 × MS)} (hX : ∀ e m b L (σ : MS) M, m ≠ 9 → Iv T FN dr m b L M σ → QP T FN dr (Qd T FN dr) M σ (X e m b L σ)) (h9 : ∀ e b L (σ : MS) M, Iv T FN dr 9 b L M σ → QP T FN dr (P9 T FN dr) M σ (X e 9 b L σ)) {K d M : Nat} {L : Nat → Int32} {σ : MS} (hJ : Iv T FN dr 8 0 L M σ) : QP T FN dr (Qd T FN dr) M σ (s_holds X K d 0 L σ) := by
  obtain ⟨hQ, hI⟩ := (show Qd T FN dr M σ ∧ (qN T FN dr 0 (L 1)) from hJ)
  refine QP_od (fun e1 => ?_)
  refine QP_oX (hX _ 4 0 _ _ _ (by decide) ⟨hQ, (show qN T FN dr 0 ((L 1)) from hI)⟩) (fun r1 Mr1 hMr1 hQr1 => ?_)
  refine QP_ite (fun u1 => ?_) (fun u1 => ?_)
  · skip
    refine QP_ob (kr_isTrue _ _ _ _) hQr1 (fun r3 er3 kr3 hQr3 => ?_)
    refine QP_ite (fun u2 => ?_) (fun u2 => ?_)
    · skip
      exact QP_t2 (hX _ 8 1 _ _ _ (by decide) ⟨Qd_h hQr3 rfl, (show True from trivial)⟩) rfl
    · skip
      exact QP_t2 (hX _ 8 2 _ _ _ (by decide) ⟨Qd_h hQr3 rfl, (show True from trivial)⟩) rfl
  · skip
    exact QP_t2 (hX _ 8 1 _ _ _ (by decide) ⟨Qd_h hQr1 rfl, (show True from trivial)⟩) rfl
theorem qv_8_1 {X : Nat → Nat → Nat → (Nat → Int32) → MS → Option (Int32 × MS)} (hX : ∀ e m b L (σ : MS) M, m ≠ 9 → Iv T FN dr m b L M σ → QP T FN dr (Qd T FN dr) M σ (X e m b L σ)) (h9 : ∀ e b L (σ : MS) M, Iv T FN dr 9 b L M σ → QP T FN dr (P9 T FN dr) M σ (X e 9 b L σ)) {K d M : Nat} {L : Nat → Int32} {σ : MS} (hJ : Iv T FN dr 8 1 L M σ) : QP T FN dr (Qd T FN dr) M σ (s_holds X K d 1 L σ) := by
  obtain ⟨hQ, hI⟩ := (show Qd T FN dr M σ ∧ (True) from hJ)
  exact QP_t2 (hX _ 8 2 _ _ _ (by decide) ⟨Qd_h hQ rfl, (show True from trivial)⟩) rfl
theorem qv_8_2 {X : Nat → Nat → Nat → (Nat → Int32) → MS → Option (Int32 × MS)} (hX : ∀ e m b L (σ : MS) M, m ≠ 9 → Iv T FN dr m b L M σ → QP T FN dr (Qd T FN dr) M σ (X e m b L σ)) (h9 : ∀ e b L (σ : MS) M, Iv T FN dr 9 b L M σ → QP T FN dr (P9 T FN dr) M σ (X e 9 b L σ)) {K d M : Nat} {L : Nat → Int32} {σ : MS} (hJ : Iv T FN dr 8 2 L M σ) : QP T FN dr (Qd T FN dr) M σ (s_holds X K d 2 L σ) := by
  obtain ⟨hQ, hI⟩ := (show Qd T FN dr M σ ∧ (True) from hJ)
  refine QP_chk (fun u1 => ?_)
  exact QP_some (Qd_k rfl hQ) (K0_k rfl)
theorem qv_8 {X : Nat → Nat → Nat → (Nat → Int32) → MS → Option (Int32 × MS)} (hX : ∀ e m b L (σ : MS) M, m ≠ 9 → Iv T FN dr m b L M σ → QP T FN dr (Qd T FN dr) M σ (X e m b L σ)) (h9 : ∀ e b L (σ : MS) M, Iv T FN dr 9 b L M σ → QP T FN dr (P9 T FN dr) M σ (X e 9 b L σ)) {K d M b : Nat} {L : Nat → Int32} {σ : MS} (hJ : Iv T FN dr 8 b L M σ) : QP T FN dr (Qd T FN dr) M σ (s_holds X K d b L σ) := by
  match b, hJ with
  | 0, hJ => exact qv_8_0 hX h9 hJ
  | 1, hJ => exact qv_8_1 hX h9 hJ
  | 2, hJ => exact qv_8_2 hX h9 hJ
  | b + 3, _ => exact QP_no
theorem qv_9_0 {X : Nat → Nat → Nat → (Nat → Int32) → MS → Option (Int32 × MS)} (hX : ∀ e m b L (σ : MS) M, m ≠ 9 → Iv T FN dr m b L M σ → QP T FN dr (Qd T FN dr) M σ (X e m b L σ)) (h9 : ∀ e b L (σ : MS) M, Iv T FN dr 9 b L M σ → QP T FN dr (P9 T FN dr) M σ (X e 9 b L σ)) {K d M : Nat} {L : Nat → Int32} {σ : MS} (hJ : Iv T FN dr 9 0 L M σ) : QP T FN dr (P9 T FN dr) M σ (s_openIter X K d 0 L σ) := by
  obtain ⟨hQ, hI⟩ := (show Qd T FN dr M σ ∧ (I9 T FN dr (L 1)) from hJ)
  refine QP_chk (fun u1 => ?_)
  refine QP_od (fun e2 => ?_)
  refine QP_oX (hX _ 4 0 _ _ _ (by decide) ⟨hQ, (show qN T FN dr 0 ((σ.2.2 7 ((L 1)).toNatClampNeg)) from by rw [rd hQ (hI.1) 7 (by decide) (by decide)]; exact hI.2)⟩) (fun r2 Mr2 hMr2 hQr2 => ?_)
  refine QP_ite (fun u2 => ?_) (fun u2 => ?_)
  · skip
    exact QP_t2 (h9 _ 1 _ _ _ ⟨Qd_h hQr2 rfl, (show r2.2.1 56 ≤ 0 from u2)⟩) rfl
  · skip
    exact QP_some (Or.inl (Qd_k rfl hQr2)) (K0_k rfl)
theorem qv_9_1 {X : Nat → Nat → Nat → (Nat → Int32) → MS → Option (Int32 × MS)} (hX : ∀ e m b L (σ : MS) M, m ≠ 9 → Iv T FN dr m b L M σ → QP T FN dr (Qd T FN dr) M σ (X e m b L σ)) (h9 : ∀ e b L (σ : MS) M, Iv T FN dr 9 b L M σ → QP T FN dr (P9 T FN dr) M σ (X e 9 b L σ)) {K d M : Nat} {L : Nat → Int32} {σ : MS} (hJ : Iv T FN dr 9 1 L M σ) : QP T FN dr (P9 T FN dr) M σ (s_openIter X K d 1 L σ) := by
  obtain ⟨hQ, hI⟩ := (show Qd T FN dr M σ ∧ (σ.1 56 ≤ 0) from hJ)
  refine QP_o6 (k6_pop _ _ _ _) hQ (fun r1 er1 hQr1 => ?_)
  refine QP_o6 (k6_isRow _ _ _ _) hQr1 (fun r2 er2 hQr2 => ?_)
  refine QP_ite (fun u1 => ?_) (fun u1 => ?_)
  · skip
    refine QP_ob (kr_fail _ _ _ _) hQr2 (fun r4 er4 kr4 hQr4 => ?_)
    exact QP_some (Or.inl (Qd_k rfl hQr4)) (K0_k rfl)
  · skip
    exact QP_t2 (h9 _ 2 _ _ _ ⟨Qd_h hQr2 rfl, (show r2.2.1 56 ≤ 0 from by rw [er2, er1]; exact hI)⟩) rfl
theorem qv_9_2 {X : Nat → Nat → Nat → (Nat → Int32) → MS → Option (Int32 × MS)} (hX : ∀ e m b L (σ : MS) M, m ≠ 9 → Iv T FN dr m b L M σ → QP T FN dr (Qd T FN dr) M σ (X e m b L σ)) (h9 : ∀ e b L (σ : MS) M, Iv T FN dr 9 b L M σ → QP T FN dr (P9 T FN dr) M σ (X e 9 b L σ)) {K d M : Nat} {L : Nat → Int32} {σ : MS} (hJ : Iv T FN dr 9 2 L M σ) : QP T FN dr (P9 T FN dr) M σ (s_openIter X K d 2 L σ) := by
  obtain ⟨hQ, hI⟩ := (show Qd T FN dr M σ ∧ (σ.1 56 ≤ 0) from hJ)
  refine QP_chk (fun u1 => ?_)
  exact QP_t2 (h9 _ 3 _ _ _ ⟨Qd_h hQ rfl, (show (σ.1, σ.2.1, updG σ.2.2 34 (upd (σ.2.2 34) ((σ.1 72)).toNatClampNeg ((L 2)))).1 56 ≤ 0 from hI)⟩) rfl
theorem qv_9_3 {X : Nat → Nat → Nat → (Nat → Int32) → MS → Option (Int32 × MS)} (hX : ∀ e m b L (σ : MS) M, m ≠ 9 → Iv T FN dr m b L M σ → QP T FN dr (Qd T FN dr) M σ (X e m b L σ)) (h9 : ∀ e b L (σ : MS) M, Iv T FN dr 9 b L M σ → QP T FN dr (P9 T FN dr) M σ (X e 9 b L σ)) {K d M : Nat} {L : Nat → Int32} {σ : MS} (hJ : Iv T FN dr 9 3 L M σ) : QP T FN dr (P9 T FN dr) M σ (s_openIter X K d 3 L σ) := by
  obtain ⟨hQ, hI⟩ := (show Qd T FN dr M σ ∧ (σ.1 56 ≤ 0) from hJ)
  refine QP_chk (fun u1 => ?_)
  exact QP_t2 (h9 _ 4 _ _ _ ⟨Qd_h hQ rfl, (show (σ.1, σ.2.1, updG σ.2.2 35 (upd (σ.2.2 35) ((σ.1 72)).toNatClampNeg 0)).1 56 ≤ 0 ∧ ¬ ((σ.1, σ.2.1, updG σ.2.2 35 (upd (σ.2.2 35) ((σ.1 72)).toNatClampNeg 0)).1 72 < 0 ∨ 4000 ≤ ((σ.1, σ.2.1, updG σ.2.2 35 (upd (σ.2.2 35) ((σ.1 72)).toNatClampNeg 0)).1 72).toNatClampNeg) from ⟨hI, u1⟩)⟩) rfl
theorem qv_9_4 {X : Nat → Nat → Nat → (Nat → Int32) → MS → Option (Int32 × MS)} (hX : ∀ e m b L (σ : MS) M, m ≠ 9 → Iv T FN dr m b L M σ → QP T FN dr (Qd T FN dr) M σ (X e m b L σ)) (h9 : ∀ e b L (σ : MS) M, Iv T FN dr 9 b L M σ → QP T FN dr (P9 T FN dr) M σ (X e 9 b L σ)) {K d M : Nat} {L : Nat → Int32} {σ : MS} (hJ : Iv T FN dr 9 4 L M σ) : QP T FN dr (P9 T FN dr) M σ (s_openIter X K d 4 L σ) := by
  obtain ⟨hQ, hI⟩ := (show Qd T FN dr M σ ∧ (σ.1 56 ≤ 0 ∧ ¬ (σ.1 72 < 0 ∨ 4000 ≤ (σ.1 72).toNatClampNeg)) from hJ)
  exact QP_some (Or.inr ⟨hI.1, Qd9_s hQ hI.2⟩) (K0_k9 rfl rfl)
theorem qv_9 {X : Nat → Nat → Nat → (Nat → Int32) → MS → Option (Int32 × MS)} (hX : ∀ e m b L (σ : MS) M, m ≠ 9 → Iv T FN dr m b L M σ → QP T FN dr (Qd T FN dr) M σ (X e m b L σ)) (h9 : ∀ e b L (σ : MS) M, Iv T FN dr 9 b L M σ → QP T FN dr (P9 T FN dr) M σ (X e 9 b L σ)) {K d M b : Nat} {L : Nat → Int32} {σ : MS} (hJ : Iv T FN dr 9 b L M σ) : QP T FN dr (P9 T FN dr) M σ (s_openIter X K d b L σ) := by
  match b, hJ with
  | 0, hJ => exact qv_9_0 hX h9 hJ
  | 1, hJ => exact qv_9_1 hX h9 hJ
  | 2, hJ => exact qv_9_2 hX h9 hJ
  | 3, hJ => exact qv_9_3 hX h9 hJ
  | 4, hJ => exact qv_9_4 hX h9 hJ
  | b + 5, _ => exact QP_no
theorem qv_10_0 {X : Nat → Nat → Nat → (Nat → Int32) → MS → Option (Int32 × MS)} (hX : ∀ e m b L (σ : MS) M, m ≠ 9 → Iv T FN dr m b L M σ → QP T FN dr (Qd T FN dr) M σ (X e m b L σ)) (h9 : ∀ e b L (σ : MS) M, Iv T FN dr 9 b L M σ → QP T FN dr (P9 T FN dr) M σ (X e 9 b L σ)) {K d M : Nat} {L : Nat → Int32} {σ : MS} (hJ : Iv T FN dr 10 0 L M σ) : QP T FN dr (Qd T FN dr) M σ (s_quantify X K d 0 L σ) := by
  obtain ⟨hQ, hI⟩ := (show Qd T FN dr M σ ∧ (I14 T FN dr (L 1)) from hJ)
  refine QP_chk (fun u1 => ?_)
  refine QP_ite (fun u2 => ?_) (fun u2 => ?_)
  · skip
    exact QP_t2 (hX _ 10 2 _ _ _ (by decide) ⟨Qd_h hQ rfl, (show I14 T FN dr (L 1) ∧ ((σ.1 72)).toNatClampNeg ≤ M from ⟨hI, hQ.2.2.1⟩)⟩) rfl
  · skip
    exact QP_t2 (hX _ 10 1 _ _ _ (by decide) ⟨Qd_h hQ rfl, (show I14 T FN dr (L 1) ∧ ((σ.1 72)).toNatClampNeg ≤ M from ⟨hI, hQ.2.2.1⟩)⟩) rfl
theorem qv_10_1 {X : Nat → Nat → Nat → (Nat → Int32) → MS → Option (Int32 × MS)} (hX : ∀ e m b L (σ : MS) M, m ≠ 9 → Iv T FN dr m b L M σ → QP T FN dr (Qd T FN dr) M σ (X e m b L σ)) (h9 : ∀ e b L (σ : MS) M, Iv T FN dr 9 b L M σ → QP T FN dr (P9 T FN dr) M σ (X e 9 b L σ)) {K d M : Nat} {L : Nat → Int32} {σ : MS} (hJ : Iv T FN dr 10 1 L M σ) : QP T FN dr (Qd T FN dr) M σ (s_quantify X K d 1 L σ) := by
  obtain ⟨hQ, hI⟩ := (show Qd T FN dr M σ ∧ (I14 T FN dr (L 1) ∧ (L 2).toNatClampNeg ≤ M) from hJ)
  exact QP_t2 (hX _ 10 2 _ _ _ (by decide) ⟨Qd_h hQ rfl, (show I14 T FN dr (L 1) ∧ (L 2).toNatClampNeg ≤ M from ⟨hI.1, Nat.le_trans hI.2 (Nat.le_refl _)⟩)⟩) rfl
theorem qv_10_2 {X : Nat → Nat → Nat → (Nat → Int32) → MS → Option (Int32 × MS)} (hX : ∀ e m b L (σ : MS) M, m ≠ 9 → Iv T FN dr m b L M σ → QP T FN dr (Qd T FN dr) M σ (X e m b L σ)) (h9 : ∀ e b L (σ : MS) M, Iv T FN dr 9 b L M σ → QP T FN dr (P9 T FN dr) M σ (X e 9 b L σ)) {K d M : Nat} {L : Nat → Int32} {σ : MS} (hJ : Iv T FN dr 10 2 L M σ) : QP T FN dr (Qd T FN dr) M σ (s_quantify X K d 2 L σ) := by
  obtain ⟨hQ, hI⟩ := (show Qd T FN dr M σ ∧ (I14 T FN dr (L 1) ∧ (L 2).toNatClampNeg ≤ M) from hJ)
  refine QP_chk (fun u1 => ?_)
  refine QP_od (fun e2 => ?_)
  refine QP_oX (hX _ 6 0 _ _ _ (by decide) ⟨hQ, (show qN T FN dr 4 ((σ.2.2 6 ((L 1)).toNatClampNeg)) from by rw [rd hQ (hI.1.1) 6 (by decide) (by decide)]; exact hI.1.2.1)⟩) (fun r2 Mr2 hMr2 hQr2 => ?_)
  exact QP_t2 (hX _ 10 3 _ _ _ (by decide) ⟨Qd_h hQr2 rfl, (show I14 T FN dr (L 1) ∧ (L 2).toNatClampNeg ≤ Mr2 from ⟨hI.1, Nat.le_trans hI.2 (Nat.le_trans (Nat.le_refl _) hMr2)⟩)⟩) rfl
theorem qv_10_3 {X : Nat → Nat → Nat → (Nat → Int32) → MS → Option (Int32 × MS)} (hX : ∀ e m b L (σ : MS) M, m ≠ 9 → Iv T FN dr m b L M σ → QP T FN dr (Qd T FN dr) M σ (X e m b L σ)) (h9 : ∀ e b L (σ : MS) M, Iv T FN dr 9 b L M σ → QP T FN dr (P9 T FN dr) M σ (X e 9 b L σ)) {K d M : Nat} {L : Nat → Int32} {σ : MS} (hJ : Iv T FN dr 10 3 L M σ) : QP T FN dr (Qd T FN dr) M σ (s_quantify X K d 3 L σ) := by
  obtain ⟨hQ, hI⟩ := (show Qd T FN dr M σ ∧ (I14 T FN dr (L 1) ∧ (L 2).toNatClampNeg ≤ M) from hJ)
  refine QP_ite (fun u1 => ?_) (fun u1 => ?_)
  · skip
    exact QP_t2 (hX _ 10 8 _ _ _ (by decide) ⟨Qd_h hQ rfl, (show I14 T FN dr (L 1) ∧ (L 2).toNatClampNeg ≤ M from ⟨hI.1, Nat.le_trans hI.2 (Nat.le_refl _)⟩)⟩) rfl
  · skip
    refine QP_ite (fun u2 => ?_) (fun u2 => ?_)
    · skip
      refine QP_chk (fun u3 => ?_)
      refine QP_od (fun e4 => ?_)
      refine QP_oX (hX _ 8 0 _ _ _ (by decide) ⟨hQ, (show qN T FN dr 0 ((σ.2.2 7 ((L 1)).toNatClampNeg)) from by rw [rd hQ (hI.1.1) 7 (by decide) (by decide)]; exact hI.1.2.2)⟩) (fun r4 Mr4 hMr4 hQr4 => ?_)
      refine QP_ite (fun u4 => ?_) (fun u4 => ?_)
      · skip
        refine QP_ite (fun u5 => ?_) (fun u5 => ?_)
        · skip
          exact QP_t2 (hX _ 10 5 _ _ _ (by decide) ⟨Qd_h hQr4 rfl, (show I14 T FN dr (L 1) ∧ (L 2).toNatClampNeg ≤ Mr4 from ⟨hI.1, Nat.le_trans hI.2 (Nat.le_trans (Nat.le_refl _) hMr4)⟩)⟩) rfl
        · skip
          exact QP_t2 (hX _ 10 4 _ _ _ (by decide) ⟨Qd_h hQr4 rfl, (show I14 T FN dr (L 1) ∧ (L 2).toNatClampNeg ≤ Mr4 from ⟨hI.1, Nat.le_trans hI.2 (Nat.le_trans (Nat.le_refl _) hMr4)⟩)⟩) rfl
      · skip
        exact QP_t2 (hX _ 10 4 _ _ _ (by decide) ⟨Qd_h hQr4 rfl, (show I14 T FN dr (L 1) ∧ (L 2).toNatClampNeg ≤ Mr4 from ⟨hI.1, Nat.le_trans hI.2 (Nat.le_trans (Nat.le_refl _) hMr4)⟩)⟩) rfl
    · skip
      exact QP_t2 (hX _ 10 8 _ _ _ (by decide) ⟨Qd_h hQ rfl, (show I14 T FN dr (L 1) ∧ (L 2).toNatClampNeg ≤ M from ⟨hI.1, Nat.le_trans hI.2 (Nat.le_refl _)⟩)⟩) rfl
theorem qv_10_4 {X : Nat → Nat → Nat → (Nat → Int32) → MS → Option (Int32 × MS)} (hX : ∀ e m b L (σ : MS) M, m ≠ 9 → Iv T FN dr m b L M σ → QP T FN dr (Qd T FN dr) M σ (X e m b L σ)) (h9 : ∀ e b L (σ : MS) M, Iv T FN dr 9 b L M σ → QP T FN dr (P9 T FN dr) M σ (X e 9 b L σ)) {K d M : Nat} {L : Nat → Int32} {σ : MS} (hJ : Iv T FN dr 10 4 L M σ) : QP T FN dr (Qd T FN dr) M σ (s_quantify X K d 4 L σ) := by
  obtain ⟨hQ, hI⟩ := (show Qd T FN dr M σ ∧ (I14 T FN dr (L 1) ∧ (L 2).toNatClampNeg ≤ M) from hJ)
  exact QP_t2 (hX _ 10 5 _ _ _ (by decide) ⟨Qd_h hQ rfl, (show I14 T FN dr (L 1) ∧ (L 2).toNatClampNeg ≤ M from ⟨hI.1, Nat.le_trans hI.2 (Nat.le_refl _)⟩)⟩) rfl
theorem qv_10_5 {X : Nat → Nat → Nat → (Nat → Int32) → MS → Option (Int32 × MS)} (hX : ∀ e m b L (σ : MS) M, m ≠ 9 → Iv T FN dr m b L M σ → QP T FN dr (Qd T FN dr) M σ (X e m b L σ)) (h9 : ∀ e b L (σ : MS) M, Iv T FN dr 9 b L M σ → QP T FN dr (P9 T FN dr) M σ (X e 9 b L σ)) {K d M : Nat} {L : Nat → Int32} {σ : MS} (hJ : Iv T FN dr 10 5 L M σ) : QP T FN dr (Qd T FN dr) M σ (s_quantify X K d 5 L σ) := by
  obtain ⟨hQ, hI⟩ := (show Qd T FN dr M σ ∧ (I14 T FN dr (L 1) ∧ (L 2).toNatClampNeg ≤ M) from hJ)
  refine QP_ite (fun u1 => ?_) (fun u1 => ?_)
  · skip
    refine QP_ite (fun u2 => ?_) (fun u2 => ?_)
    · skip
      refine QP_chk (fun u3 => ?_)
      refine QP_od (fun e4 => ?_)
      refine QP_oX (hX _ 6 0 _ _ _ (by decide) ⟨hQ, (show qN T FN dr 4 ((σ.2.2 6 ((L 1)).toNatClampNeg)) from by rw [rd hQ (hI.1.1) 6 (by decide) (by decide)]; exact hI.1.2.1)⟩) (fun r4 Mr4 hMr4 hQr4 => ?_)
      refine QP_ite (fun u4 => ?_) (fun u4 => ?_)
      · skip
        exact QP_t2 (hX _ 10 6 _ _ _ (by decide) ⟨Qd_h hQr4 rfl, (show I14 T FN dr (L 1) ∧ (L 2).toNatClampNeg ≤ Mr4 from ⟨hI.1, Nat.le_trans hI.2 (Nat.le_trans (Nat.le_refl _) hMr4)⟩)⟩) rfl
      · skip
        exact QP_t2 (hX _ 10 7 _ _ _ (by decide) ⟨Qd_h hQr4 rfl, (show I14 T FN dr (L 1) ∧ (L 2).toNatClampNeg ≤ Mr4 from ⟨hI.1, Nat.le_trans hI.2 (Nat.le_trans (Nat.le_refl _) hMr4)⟩)⟩) rfl
    · skip
      exact QP_t2 (hX _ 10 6 _ _ _ (by decide) ⟨Qd_h hQ rfl, (show I14 T FN dr (L 1) ∧ (L 2).toNatClampNeg ≤ M from ⟨hI.1, Nat.le_trans hI.2 (Nat.le_refl _)⟩)⟩) rfl
  · skip
    exact QP_t2 (hX _ 10 6 _ _ _ (by decide) ⟨Qd_h hQ rfl, (show I14 T FN dr (L 1) ∧ (L 2).toNatClampNeg ≤ M from ⟨hI.1, Nat.le_trans hI.2 (Nat.le_refl _)⟩)⟩) rfl
theorem qv_10_6 {X : Nat → Nat → Nat → (Nat → Int32) → MS → Option (Int32 × MS)} (hX : ∀ e m b L (σ : MS) M, m ≠ 9 → Iv T FN dr m b L M σ → QP T FN dr (Qd T FN dr) M σ (X e m b L σ)) (h9 : ∀ e b L (σ : MS) M, Iv T FN dr 9 b L M σ → QP T FN dr (P9 T FN dr) M σ (X e 9 b L σ)) {K d M : Nat} {L : Nat → Int32} {σ : MS} (hJ : Iv T FN dr 10 6 L M σ) : QP T FN dr (Qd T FN dr) M σ (s_quantify X K d 6 L σ) := by
  obtain ⟨hQ, hI⟩ := (show Qd T FN dr M σ ∧ (I14 T FN dr (L 1) ∧ (L 2).toNatClampNeg ≤ M) from hJ)
  exact QP_t2 (hX _ 10 7 _ _ _ (by decide) ⟨Qd_h hQ rfl, (show I14 T FN dr (L 1) ∧ (L 2).toNatClampNeg ≤ M from ⟨hI.1, Nat.le_trans hI.2 (Nat.le_refl _)⟩)⟩) rfl
theorem qv_10_7 {X : Nat → Nat → Nat → (Nat → Int32) → MS → Option (Int32 × MS)} (hX : ∀ e m b L (σ : MS) M, m ≠ 9 → Iv T FN dr m b L M σ → QP T FN dr (Qd T FN dr) M σ (X e m b L σ)) (h9 : ∀ e b L (σ : MS) M, Iv T FN dr 9 b L M σ → QP T FN dr (P9 T FN dr) M σ (X e 9 b L σ)) {K d M : Nat} {L : Nat → Int32} {σ : MS} (hJ : Iv T FN dr 10 7 L M σ) : QP T FN dr (Qd T FN dr) M σ (s_quantify X K d 7 L σ) := by
  obtain ⟨hQ, hI⟩ := (show Qd T FN dr M σ ∧ (I14 T FN dr (L 1) ∧ (L 2).toNatClampNeg ≤ M) from hJ)
  exact QP_t2 (hX _ 10 3 _ _ _ (by decide) ⟨Qd_h hQ rfl, (show I14 T FN dr (L 1) ∧ (L 2).toNatClampNeg ≤ M from ⟨hI.1, Nat.le_trans hI.2 (Nat.le_refl _)⟩)⟩) rfl
theorem qv_10_8 {X : Nat → Nat → Nat → (Nat → Int32) → MS → Option (Int32 × MS)} (hX : ∀ e m b L (σ : MS) M, m ≠ 9 → Iv T FN dr m b L M σ → QP T FN dr (Qd T FN dr) M σ (X e m b L σ)) (h9 : ∀ e b L (σ : MS) M, Iv T FN dr 9 b L M σ → QP T FN dr (P9 T FN dr) M σ (X e 9 b L σ)) {K d M : Nat} {L : Nat → Int32} {σ : MS} (hJ : Iv T FN dr 10 8 L M σ) : QP T FN dr (Qd T FN dr) M σ (s_quantify X K d 8 L σ) := by
  obtain ⟨hQ, hI⟩ := (show Qd T FN dr M σ ∧ (I14 T FN dr (L 1) ∧ (L 2).toNatClampNeg ≤ M) from hJ)
  exact QP_72 rfl hQ hI.2 (fun hQ' => hX _ 10 9 _ _ M (by decide) ⟨hQ', trivial⟩)
theorem qv_10_9 {X : Nat → Nat → Nat → (Nat → Int32) → MS → Option (Int32 × MS)} (hX : ∀ e m b L (σ : MS) M, m ≠ 9 → Iv T FN dr m b L M σ → QP T FN dr (Qd T FN dr) M σ (X e m b L σ)) (h9 : ∀ e b L (σ : MS) M, Iv T FN dr 9 b L M σ → QP T FN dr (P9 T FN dr) M σ (X e 9 b L σ)) {K d M : Nat} {L : Nat → Int32} {σ : MS} (hJ : Iv T FN dr 10 9 L M σ) : QP T FN dr (Qd T FN dr) M σ (s_quantify X K d 9 L σ) := by
  obtain ⟨hQ, hI⟩ := (show Qd T FN dr M σ ∧ (True) from hJ)
  refine QP_chk (fun u1 => ?_)
  refine QP_ob (kr_clear _ _ _ _) hQ (fun r2 er2 kr2 hQr2 => ?_)
  refine QP_ite (fun u2 => ?_) (fun u2 => ?_)
  · skip
    refine QP_ite (fun u3 => ?_) (fun u3 => ?_)
    · skip
      exact QP_t2 (hX _ 10 11 _ _ _ (by decide) ⟨Qd_h hQr2 rfl, (show True from trivial)⟩) rfl
    · skip
      exact QP_t2 (hX _ 10 10 _ _ _ (by decide) ⟨Qd_h hQr2 rfl, (show True from trivial)⟩) rfl
  · skip
    exact QP_t2 (hX _ 10 12 _ _ _ (by decide) ⟨Qd_h hQr2 rfl, (show True from trivial)⟩) rfl
theorem qv_10_10 {X : Nat → Nat → Nat → (Nat → Int32) → MS → Option (Int32 × MS)} (hX : ∀ e m b L (σ : MS) M, m ≠ 9 → Iv T FN dr m b L M σ → QP T FN dr (Qd T FN dr) M σ (X e m b L σ)) (h9 : ∀ e b L (σ : MS) M, Iv T FN dr 9 b L M σ → QP T FN dr (P9 T FN dr) M σ (X e 9 b L σ)) {K d M : Nat} {L : Nat → Int32} {σ : MS} (hJ : Iv T FN dr 10 10 L M σ) : QP T FN dr (Qd T FN dr) M σ (s_quantify X K d 10 L σ) := by
  obtain ⟨hQ, hI⟩ := (show Qd T FN dr M σ ∧ (True) from hJ)
  exact QP_t2 (hX _ 10 11 _ _ _ (by decide) ⟨Qd_h hQ rfl, (show True from trivial)⟩) rfl
theorem qv_10_11 {X : Nat → Nat → Nat → (Nat → Int32) → MS → Option (Int32 × MS)} (hX : ∀ e m b L (σ : MS) M, m ≠ 9 → Iv T FN dr m b L M σ → QP T FN dr (Qd T FN dr) M σ (X e m b L σ)) (h9 : ∀ e b L (σ : MS) M, Iv T FN dr 9 b L M σ → QP T FN dr (P9 T FN dr) M σ (X e 9 b L σ)) {K d M : Nat} {L : Nat → Int32} {σ : MS} (hJ : Iv T FN dr 10 11 L M σ) : QP T FN dr (Qd T FN dr) M σ (s_quantify X K d 11 L σ) := by
  obtain ⟨hQ, hI⟩ := (show Qd T FN dr M σ ∧ (True) from hJ)
  refine QP_ob (kr_truth _ _ _ _) hQ (fun r1 er1 kr1 hQr1 => ?_)
  refine QP_ob (kr_answer _ _ _ _) hQr1 (fun r2 er2 kr2 hQr2 => ?_)
  refine QP_ob (kr_push _ _ _ _) hQr2 (fun r3 er3 kr3 hQr3 => ?_)
  exact QP_t2 (hX _ 10 12 _ _ _ (by decide) ⟨Qd_h hQr3 rfl, (show True from trivial)⟩) rfl
theorem qv_10_12 {X : Nat → Nat → Nat → (Nat → Int32) → MS → Option (Int32 × MS)} (hX : ∀ e m b L (σ : MS) M, m ≠ 9 → Iv T FN dr m b L M σ → QP T FN dr (Qd T FN dr) M σ (X e m b L σ)) (h9 : ∀ e b L (σ : MS) M, Iv T FN dr 9 b L M σ → QP T FN dr (P9 T FN dr) M σ (X e 9 b L σ)) {K d M : Nat} {L : Nat → Int32} {σ : MS} (hJ : Iv T FN dr 10 12 L M σ) : QP T FN dr (Qd T FN dr) M σ (s_quantify X K d 12 L σ) := by
  obtain ⟨hQ, hI⟩ := (show Qd T FN dr M σ ∧ (True) from hJ)
  exact QP_some (Qd_k rfl hQ) (K0_k rfl)
theorem qv_10 {X : Nat → Nat → Nat → (Nat → Int32) → MS → Option (Int32 × MS)} (hX : ∀ e m b L (σ : MS) M, m ≠ 9 → Iv T FN dr m b L M σ → QP T FN dr (Qd T FN dr) M σ (X e m b L σ)) (h9 : ∀ e b L (σ : MS) M, Iv T FN dr 9 b L M σ → QP T FN dr (P9 T FN dr) M σ (X e 9 b L σ)) {K d M b : Nat} {L : Nat → Int32} {σ : MS} (hJ : Iv T FN dr 10 b L M σ) : QP T FN dr (Qd T FN dr) M σ (s_quantify X K d b L σ) := by
  match b, hJ with
  | 0, hJ => exact qv_10_0 hX h9 hJ
  | 1, hJ => exact qv_10_1 hX h9 hJ
  | 2, hJ => exact qv_10_2 hX h9 hJ
  | 3, hJ => exact qv_10_3 hX h9 hJ
  | 4, hJ => exact qv_10_4 hX h9 hJ
  | 5, hJ => exact qv_10_5 hX h9 hJ
  | 6, hJ => exact qv_10_6 hX h9 hJ
  | 7, hJ => exact qv_10_7 hX h9 hJ
  | 8, hJ => exact qv_10_8 hX h9 hJ
  | 9, hJ => exact qv_10_9 hX h9 hJ
  | 10, hJ => exact qv_10_10 hX h9 hJ
  | 11, hJ => exact qv_10_11 hX h9 hJ
  | 12, hJ => exact qv_10_12 hX h9 hJ
  | b + 13, _ => exact QP_no
theorem qv_11_0 {X : Nat → Nat → Nat → (Nat → Int32) → MS → Option (Int32 × MS)} (hX : ∀ e m b L (σ : MS) M, m ≠ 9 → Iv T FN dr m b L M σ → QP T FN dr (Qd T FN dr) M σ (X e m b L σ)) (h9 : ∀ e b L (σ : MS) M, Iv T FN dr 9 b L M σ → QP T FN dr (P9 T FN dr) M σ (X e 9 b L σ)) {K d M : Nat} {L : Nat → Int32} {σ : MS} (hJ : Iv T FN dr 11 0 L M σ) : QP T FN dr (Qd T FN dr) M σ (s_setBrackets X K d 0 L σ) := by
  obtain ⟨hQ, hI⟩ := (show Qd T FN dr M σ ∧ (I10 T FN dr (L 1)) from hJ)
  refine QP_chk (fun u1 => ?_)
  exact QP_t2 (hX _ 11 1 _ _ _ (by decide) ⟨Qd_h hQ rfl, (show qN T FN dr 3 ((σ.2.2 6 ((L 1)).toNatClampNeg)) from by rw [rd hQ (hI.1) 6 (by decide) (by decide)]; exact hI.2)⟩) rfl
theorem qv_11_1 {X : Nat → Nat → Nat → (Nat → Int32) → MS → Option (Int32 × MS)} (hX : ∀ e m b L (σ : MS) M, m ≠ 9 → Iv T FN dr m b L M σ → QP T FN dr (Qd T FN dr) M σ (X e m b L σ)) (h9 : ∀ e b L (σ : MS) M, Iv T FN dr 9 b L M σ → QP T FN dr (P9 T FN dr) M σ (X e 9 b L σ)) {K d M : Nat} {L : Nat → Int32} {σ : MS} (hJ : Iv T FN dr 11 1 L M σ) : QP T FN dr (Qd T FN dr) M σ (s_setBrackets X K d 1 L σ) := by
  obtain ⟨hQ, hI⟩ := (show Qd T FN dr M σ ∧ (qN T FN dr 3 (L 5)) from hJ)
  refine QP_ite (fun u1 => ?_) (fun u1 => ?_)
  · skip
    exact QP_t2 (hX _ 11 15 _ _ _ (by decide) ⟨Qd_h hQ rfl, (show True from trivial)⟩) rfl
  · skip
    refine QP_ite (fun u2 => ?_) (fun u2 => ?_)
    · skip
      refine QP_od (fun e3 => ?_)
      refine QP_oX (hX _ 4 0 _ _ _ (by decide) ⟨hQ, (show qN T FN dr 0 ((L 5)) from ((cL hI).resolve_left u1).2.1)⟩) (fun r3 Mr3 hMr3 hQr3 => ?_)
      refine QP_ite (fun u3 => ?_) (fun u3 => ?_)
      · skip
        refine QP_chk (fun u4 => ?_)
        refine QP_ite (fun u5 => ?_) (fun u5 => ?_)
        · skip
          exact QP_t2 (hX _ 11 3 _ _ _ (by decide) ⟨Qd_h hQr3 rfl, (show qN T FN dr 3 (L 5) from hI)⟩) rfl
        · skip
          exact QP_t2 (hX _ 11 2 _ _ _ (by decide) ⟨Qd_h hQr3 rfl, (show qN T FN dr 3 (L 5) from hI)⟩) rfl
      · skip
        exact QP_t2 (hX _ 11 2 _ _ _ (by decide) ⟨Qd_h hQr3 rfl, (show qN T FN dr 3 (L 5) from hI)⟩) rfl
    · skip
      exact QP_t2 (hX _ 11 15 _ _ _ (by decide) ⟨Qd_h hQ rfl, (show True from trivial)⟩) rfl
theorem qv_11_2 {X : Nat → Nat → Nat → (Nat → Int32) → MS → Option (Int32 × MS)} (hX : ∀ e m b L (σ : MS) M, m ≠ 9 → Iv T FN dr m b L M σ → QP T FN dr (Qd T FN dr) M σ (X e m b L σ)) (h9 : ∀ e b L (σ : MS) M, Iv T FN dr 9 b L M σ → QP T FN dr (P9 T FN dr) M σ (X e 9 b L σ)) {K d M : Nat} {L : Nat → Int32} {σ : MS} (hJ : Iv T FN dr 11 2 L M σ) : QP T FN dr (Qd T FN dr) M σ (s_setBrackets X K d 2 L σ) := by
  obtain ⟨hQ, hI⟩ := (show Qd T FN dr M σ ∧ (qN T FN dr 3 (L 5)) from hJ)
  refine QP_ite (fun u1 => ?_) (fun u1 => ?_)
  · skip
    exact QP_t2 (hX _ 11 4 _ _ _ (by decide) ⟨Qd_h hQ rfl, (show qN T FN dr 3 (L 5) from hI)⟩) rfl
  · skip
    exact QP_t2 (hX _ 11 3 _ _ _ (by decide) ⟨Qd_h hQ rfl, (show qN T FN dr 3 (L 5) from hI)⟩) rfl
theorem qv_11_3 {X : Nat → Nat → Nat → (Nat → Int32) → MS → Option (Int32 × MS)} (hX : ∀ e m b L (σ : MS) M, m ≠ 9 → Iv T FN dr m b L M σ → QP T FN dr (Qd T FN dr) M σ (X e m b L σ)) (h9 : ∀ e b L (σ : MS) M, Iv T FN dr 9 b L M σ → QP T FN dr (P9 T FN dr) M σ (X e 9 b L σ)) {K d M : Nat} {L : Nat → Int32} {σ : MS} (hJ : Iv T FN dr 11 3 L M σ) : QP T FN dr (Qd T FN dr) M σ (s_setBrackets X K d 3 L σ) := by
  obtain ⟨hQ, hI⟩ := (show Qd T FN dr M σ ∧ (qN T FN dr 3 (L 5)) from hJ)
  exact QP_t2 (hX _ 11 5 _ _ _ (by decide) ⟨Qd_h hQ rfl, (show qN T FN dr 3 (L 5) from hI)⟩) rfl
theorem qv_11_4 {X : Nat → Nat → Nat → (Nat → Int32) → MS → Option (Int32 × MS)} (hX : ∀ e m b L (σ : MS) M, m ≠ 9 → Iv T FN dr m b L M σ → QP T FN dr (Qd T FN dr) M σ (X e m b L σ)) (h9 : ∀ e b L (σ : MS) M, Iv T FN dr 9 b L M σ → QP T FN dr (P9 T FN dr) M σ (X e 9 b L σ)) {K d M : Nat} {L : Nat → Int32} {σ : MS} (hJ : Iv T FN dr 11 4 L M σ) : QP T FN dr (Qd T FN dr) M σ (s_setBrackets X K d 4 L σ) := by
  obtain ⟨hQ, hI⟩ := (show Qd T FN dr M σ ∧ (qN T FN dr 3 (L 5)) from hJ)
  exact QP_t2 (hX _ 11 5 _ _ _ (by decide) ⟨Qd_h hQ rfl, (show qN T FN dr 3 (L 5) from hI)⟩) rfl
theorem qv_11_5 {X : Nat → Nat → Nat → (Nat → Int32) → MS → Option (Int32 × MS)} (hX : ∀ e m b L (σ : MS) M, m ≠ 9 → Iv T FN dr m b L M σ → QP T FN dr (Qd T FN dr) M σ (X e m b L σ)) (h9 : ∀ e b L (σ : MS) M, Iv T FN dr 9 b L M σ → QP T FN dr (P9 T FN dr) M σ (X e 9 b L σ)) {K d M : Nat} {L : Nat → Int32} {σ : MS} (hJ : Iv T FN dr 11 5 L M σ) : QP T FN dr (Qd T FN dr) M σ (s_setBrackets X K d 5 L σ) := by
  obtain ⟨hQ, hI⟩ := (show Qd T FN dr M σ ∧ (qN T FN dr 3 (L 5)) from hJ)
  refine QP_ite (fun u1 => ?_) (fun u1 => ?_)
  · skip
    refine QP_ite (fun u2 => ?_) (fun u2 => ?_)
    · skip
      refine QP_ite (fun u3 => ?_) (fun u3 => ?_)
      · skip
        exact QP_t2 (hX _ 11 7 _ _ _ (by decide) ⟨Qd_h hQ rfl, (show qN T FN dr 3 (L 5) from hI)⟩) rfl
      · skip
        exact QP_t2 (hX _ 11 6 _ _ _ (by decide) ⟨Qd_h hQ rfl, (show qN T FN dr 3 (L 5) from hI)⟩) rfl
    · skip
      exact QP_t2 (hX _ 11 6 _ _ _ (by decide) ⟨Qd_h hQ rfl, (show qN T FN dr 3 (L 5) from hI)⟩) rfl
  · skip
    exact QP_t2 (hX _ 11 7 _ _ _ (by decide) ⟨Qd_h hQ rfl, (show qN T FN dr 3 (L 5) from hI)⟩) rfl
theorem qv_11_6 {X : Nat → Nat → Nat → (Nat → Int32) → MS → Option (Int32 × MS)} (hX : ∀ e m b L (σ : MS) M, m ≠ 9 → Iv T FN dr m b L M σ → QP T FN dr (Qd T FN dr) M σ (X e m b L σ)) (h9 : ∀ e b L (σ : MS) M, Iv T FN dr 9 b L M σ → QP T FN dr (P9 T FN dr) M σ (X e 9 b L σ)) {K d M : Nat} {L : Nat → Int32} {σ : MS} (hJ : Iv T FN dr 11 6 L M σ) : QP T FN dr (Qd T FN dr) M σ (s_setBrackets X K d 6 L σ) := by
  obtain ⟨hQ, hI⟩ := (show Qd T FN dr M σ ∧ (qN T FN dr 3 (L 5)) from hJ)
  exact QP_t2 (hX _ 11 14 _ _ _ (by decide) ⟨Qd_h hQ rfl, (show qN T FN dr 3 (L 5) from hI)⟩) rfl
theorem qv_11_7 {X : Nat → Nat → Nat → (Nat → Int32) → MS → Option (Int32 × MS)} (hX : ∀ e m b L (σ : MS) M, m ≠ 9 → Iv T FN dr m b L M σ → QP T FN dr (Qd T FN dr) M σ (X e m b L σ)) (h9 : ∀ e b L (σ : MS) M, Iv T FN dr 9 b L M σ → QP T FN dr (P9 T FN dr) M σ (X e 9 b L σ)) {K d M : Nat} {L : Nat → Int32} {σ : MS} (hJ : Iv T FN dr 11 7 L M σ) : QP T FN dr (Qd T FN dr) M σ (s_setBrackets X K d 7 L σ) := by
  obtain ⟨hQ, hI⟩ := (show Qd T FN dr M σ ∧ (qN T FN dr 3 (L 5)) from hJ)
  refine QP_ite (fun u1 => ?_) (fun u1 => ?_)
  · skip
    refine QP_ob (kr_distinct _ _ _ _) hQ (fun r2 er2 kr2 hQr2 => ?_)
    exact QP_t2 (hX _ 11 8 _ _ _ (by decide) ⟨Qd_h hQr2 rfl, (show qN T FN dr 3 (L 5) from hI)⟩) rfl
  · skip
    exact QP_t2 (hX _ 11 14 _ _ _ (by decide) ⟨Qd_h hQ rfl, (show qN T FN dr 3 (L 5) from hI)⟩) rfl
theorem qv_11_8 {X : Nat → Nat → Nat → (Nat → Int32) → MS → Option (Int32 × MS)} (hX : ∀ e m b L (σ : MS) M, m ≠ 9 → Iv T FN dr m b L M σ → QP T FN dr (Qd T FN dr) M σ (X e m b L σ)) (h9 : ∀ e b L (σ : MS) M, Iv T FN dr 9 b L M σ → QP T FN dr (P9 T FN dr) M σ (X e 9 b L σ)) {K d M : Nat} {L : Nat → Int32} {σ : MS} (hJ : Iv T FN dr 11 8 L M σ) : QP T FN dr (Qd T FN dr) M σ (s_setBrackets X K d 8 L σ) := by
  obtain ⟨hQ, hI⟩ := (show Qd T FN dr M σ ∧ (qN T FN dr 3 (L 5)) from hJ)
  refine QP_ite (fun u1 => ?_) (fun u1 => ?_)
  · skip
    exact QP_t2 (hX _ 11 9 _ _ _ (by decide) ⟨Qd_h hQ rfl, (show qN T FN dr 3 (L 5) from hI)⟩) rfl
  · skip
    refine QP_chk (fun u2 => ?_)
    refine QP_ob (kr_size _ _ _ _) hQ (fun r3 er3 kr3 hQr3 => ?_)
    exact QP_t2 (hX _ 11 8 _ _ _ (by decide) ⟨Qd_h hQr3 rfl, (show qN T FN dr 3 (L 5) from hI)⟩) rfl
theorem qv_11_9 {X : Nat → Nat → Nat → (Nat → Int32) → MS → Option (Int32 × MS)} (hX : ∀ e m b L (σ : MS) M, m ≠ 9 → Iv T FN dr m b L M σ → QP T FN dr (Qd T FN dr) M σ (X e m b L σ)) (h9 : ∀ e b L (σ : MS) M, Iv T FN dr 9 b L M σ → QP T FN dr (P9 T FN dr) M σ (X e 9 b L σ)) {K d M : Nat} {L : Nat → Int32} {σ : MS} (hJ : Iv T FN dr 11 9 L M σ) : QP T FN dr (Qd T FN dr) M σ (s_setBrackets X K d 9 L σ) := by
  obtain ⟨hQ, hI⟩ := (show Qd T FN dr M σ ∧ (qN T FN dr 3 (L 5)) from hJ)
  refine QP_ite (fun u1 => ?_) (fun u1 => ?_)
  · skip
    exact QP_t2 (hX _ 11 10 _ _ _ (by decide) ⟨Qd_h hQ rfl, (show qN T FN dr 3 (L 5) from hI)⟩) rfl
  · skip
    exact QP_t2 (hX _ 11 11 _ _ _ (by decide) ⟨Qd_h hQ rfl, (show qN T FN dr 3 (L 5) from hI)⟩) rfl
theorem qv_11_10 {X : Nat → Nat → Nat → (Nat → Int32) → MS → Option (Int32 × MS)} (hX : ∀ e m b L (σ : MS) M, m ≠ 9 → Iv T FN dr m b L M σ → QP T FN dr (Qd T FN dr) M σ (X e m b L σ)) (h9 : ∀ e b L (σ : MS) M, Iv T FN dr 9 b L M σ → QP T FN dr (P9 T FN dr) M σ (X e 9 b L σ)) {K d M : Nat} {L : Nat → Int32} {σ : MS} (hJ : Iv T FN dr 11 10 L M σ) : QP T FN dr (Qd T FN dr) M σ (s_setBrackets X K d 10 L σ) := by
  obtain ⟨hQ, hI⟩ := (show Qd T FN dr M σ ∧ (qN T FN dr 3 (L 5)) from hJ)
  exact QP_t2 (hX _ 11 11 _ _ _ (by decide) ⟨Qd_h hQ rfl, (show qN T FN dr 3 (L 5) from hI)⟩) rfl
theorem qv_11_11 {X : Nat → Nat → Nat → (Nat → Int32) → MS → Option (Int32 × MS)} (hX : ∀ e m b L (σ : MS) M, m ≠ 9 → Iv T FN dr m b L M σ → QP T FN dr (Qd T FN dr) M σ (X e m b L σ)) (h9 : ∀ e b L (σ : MS) M, Iv T FN dr 9 b L M σ → QP T FN dr (P9 T FN dr) M σ (X e 9 b L σ)) {K d M : Nat} {L : Nat → Int32} {σ : MS} (hJ : Iv T FN dr 11 11 L M σ) : QP T FN dr (Qd T FN dr) M σ (s_setBrackets X K d 11 L σ) := by
  obtain ⟨hQ, hI⟩ := (show Qd T FN dr M σ ∧ (qN T FN dr 3 (L 5)) from hJ)
  refine QP_ite (fun u1 => ?_) (fun u1 => ?_)
  · skip
    exact QP_t2 (hX _ 11 12 _ _ _ (by decide) ⟨Qd_h hQ rfl, (show qN T FN dr 3 (L 5) from hI)⟩) rfl
  · skip
    exact QP_t2 (hX _ 11 13 _ _ _ (by decide) ⟨Qd_h hQ rfl, (show qN T FN dr 3 (L 5) from hI)⟩) rfl
theorem qv_11_12 {X : Nat → Nat → Nat → (Nat → Int32) → MS → Option (Int32 × MS)} (hX : ∀ e m b L (σ : MS) M, m ≠ 9 → Iv T FN dr m b L M σ → QP T FN dr (Qd T FN dr) M σ (X e m b L σ)) (h9 : ∀ e b L (σ : MS) M, Iv T FN dr 9 b L M σ → QP T FN dr (P9 T FN dr) M σ (X e 9 b L σ)) {K d M : Nat} {L : Nat → Int32} {σ : MS} (hJ : Iv T FN dr 11 12 L M σ) : QP T FN dr (Qd T FN dr) M σ (s_setBrackets X K d 12 L σ) := by
  obtain ⟨hQ, hI⟩ := (show Qd T FN dr M σ ∧ (qN T FN dr 3 (L 5)) from hJ)
  exact QP_t2 (hX _ 11 13 _ _ _ (by decide) ⟨Qd_h hQ rfl, (show qN T FN dr 3 (L 5) from hI)⟩) rfl
theorem qv_11_13 {X : Nat → Nat → Nat → (Nat → Int32) → MS → Option (Int32 × MS)} (hX : ∀ e m b L (σ : MS) M, m ≠ 9 → Iv T FN dr m b L M σ → QP T FN dr (Qd T FN dr) M σ (X e m b L σ)) (h9 : ∀ e b L (σ : MS) M, Iv T FN dr 9 b L M σ → QP T FN dr (P9 T FN dr) M σ (X e 9 b L σ)) {K d M : Nat} {L : Nat → Int32} {σ : MS} (hJ : Iv T FN dr 11 13 L M σ) : QP T FN dr (Qd T FN dr) M σ (s_setBrackets X K d 13 L σ) := by
  obtain ⟨hQ, hI⟩ := (show Qd T FN dr M σ ∧ (qN T FN dr 3 (L 5)) from hJ)
  exact QP_t2 (hX _ 11 14 _ _ _ (by decide) ⟨Qd_h hQ rfl, (show qN T FN dr 3 (L 5) from hI)⟩) rfl
theorem qv_11_14 {X : Nat → Nat → Nat → (Nat → Int32) → MS → Option (Int32 × MS)} (hX : ∀ e m b L (σ : MS) M, m ≠ 9 → Iv T FN dr m b L M σ → QP T FN dr (Qd T FN dr) M σ (X e m b L σ)) (h9 : ∀ e b L (σ : MS) M, Iv T FN dr 9 b L M σ → QP T FN dr (P9 T FN dr) M σ (X e 9 b L σ)) {K d M : Nat} {L : Nat → Int32} {σ : MS} (hJ : Iv T FN dr 11 14 L M σ) : QP T FN dr (Qd T FN dr) M σ (s_setBrackets X K d 14 L σ) := by
  obtain ⟨hQ, hI⟩ := (show Qd T FN dr M σ ∧ (qN T FN dr 3 (L 5)) from hJ)
  refine QP_chk (fun u1 => ?_)
  exact QP_t2 (hX _ 11 1 _ _ _ (by decide) ⟨Qd_h hQ rfl, (show qN T FN dr 3 ((σ.2.2 9 ((L 5)).toNatClampNeg)) from by rw [rd hQ ((cLc hI u1).1) 9 (by decide) (by decide)]; exact (cLc hI u1).2)⟩) rfl
theorem qv_11_15 {X : Nat → Nat → Nat → (Nat → Int32) → MS → Option (Int32 × MS)} (hX : ∀ e m b L (σ : MS) M, m ≠ 9 → Iv T FN dr m b L M σ → QP T FN dr (Qd T FN dr) M σ (X e m b L σ)) (h9 : ∀ e b L (σ : MS) M, Iv T FN dr 9 b L M σ → QP T FN dr (P9 T FN dr) M σ (X e 9 b L σ)) {K d M : Nat} {L : Nat → Int32} {σ : MS} (hJ : Iv T FN dr 11 15 L M σ) : QP T FN dr (Qd T FN dr) M σ (s_setBrackets X K d 15 L σ) := by
  obtain ⟨hQ, hI⟩ := (show Qd T FN dr M σ ∧ (True) from hJ)
  refine QP_ite (fun u1 => ?_) (fun u1 => ?_)
  · skip
    refine QP_ite (fun u2 => ?_) (fun u2 => ?_)
    · skip
      exact QP_t2 (hX _ 11 16 _ _ _ (by decide) ⟨Qd_h hQ rfl, (show True from trivial)⟩) rfl
    · skip
      refine QP_ob (kr_fail _ _ _ _) hQ (fun r3 er3 kr3 hQr3 => ?_)
      exact QP_t2 (hX _ 11 17 _ _ _ (by decide) ⟨Qd_h hQr3 rfl, (show True from trivial)⟩) rfl
  · skip
    exact QP_t2 (hX _ 11 16 _ _ _ (by decide) ⟨Qd_h hQ rfl, (show True from trivial)⟩) rfl
theorem qv_11_16 {X : Nat → Nat → Nat → (Nat → Int32) → MS → Option (Int32 × MS)} (hX : ∀ e m b L (σ : MS) M, m ≠ 9 → Iv T FN dr m b L M σ → QP T FN dr (Qd T FN dr) M σ (X e m b L σ)) (h9 : ∀ e b L (σ : MS) M, Iv T FN dr 9 b L M σ → QP T FN dr (P9 T FN dr) M σ (X e 9 b L σ)) {K d M : Nat} {L : Nat → Int32} {σ : MS} (hJ : Iv T FN dr 11 16 L M σ) : QP T FN dr (Qd T FN dr) M σ (s_setBrackets X K d 16 L σ) := by
  obtain ⟨hQ, hI⟩ := (show Qd T FN dr M σ ∧ (True) from hJ)
  refine QP_ite (fun u1 => ?_) (fun u1 => ?_)
  · skip
    refine QP_ite (fun u2 => ?_) (fun u2 => ?_)
    · skip
      exact QP_t2 (hX _ 11 17 _ _ _ (by decide) ⟨Qd_h hQ rfl, (show True from trivial)⟩) rfl
    · skip
      refine QP_ob (kr_fail _ _ _ _) hQ (fun r3 er3 kr3 hQr3 => ?_)
      exact QP_t2 (hX _ 11 17 _ _ _ (by decide) ⟨Qd_h hQr3 rfl, (show True from trivial)⟩) rfl
  · skip
    exact QP_t2 (hX _ 11 17 _ _ _ (by decide) ⟨Qd_h hQ rfl, (show True from trivial)⟩) rfl
theorem qv_11_17 {X : Nat → Nat → Nat → (Nat → Int32) → MS → Option (Int32 × MS)} (hX : ∀ e m b L (σ : MS) M, m ≠ 9 → Iv T FN dr m b L M σ → QP T FN dr (Qd T FN dr) M σ (X e m b L σ)) (h9 : ∀ e b L (σ : MS) M, Iv T FN dr 9 b L M σ → QP T FN dr (P9 T FN dr) M σ (X e 9 b L σ)) {K d M : Nat} {L : Nat → Int32} {σ : MS} (hJ : Iv T FN dr 11 17 L M σ) : QP T FN dr (Qd T FN dr) M σ (s_setBrackets X K d 17 L σ) := by
  obtain ⟨hQ, hI⟩ := (show Qd T FN dr M σ ∧ (True) from hJ)
  refine QP_ite (fun u1 => ?_) (fun u1 => ?_)
  · skip
    refine QP_ob (kr_sweep _ _ _ _) hQ (fun r2 er2 kr2 hQr2 => ?_)
    refine QP_ob (kr_setOf _ _ _ _) hQr2 (fun r3 er3 kr3 hQr3 => ?_)
    refine QP_ob (kr_answer _ _ _ _) hQr3 (fun r4 er4 kr4 hQr4 => ?_)
    refine QP_ob (kr_push _ _ _ _) hQr4 (fun r5 er5 kr5 hQr5 => ?_)
    exact QP_t2 (hX _ 11 18 _ _ _ (by decide) ⟨Qd_h hQr5 rfl, (show True from trivial)⟩) rfl
  · skip
    exact QP_t2 (hX _ 11 18 _ _ _ (by decide) ⟨Qd_h hQ rfl, (show True from trivial)⟩) rfl
theorem qv_11_18 {X : Nat → Nat → Nat → (Nat → Int32) → MS → Option (Int32 × MS)} (hX : ∀ e m b L (σ : MS) M, m ≠ 9 → Iv T FN dr m b L M σ → QP T FN dr (Qd T FN dr) M σ (X e m b L σ)) (h9 : ∀ e b L (σ : MS) M, Iv T FN dr 9 b L M σ → QP T FN dr (P9 T FN dr) M σ (X e 9 b L σ)) {K d M : Nat} {L : Nat → Int32} {σ : MS} (hJ : Iv T FN dr 11 18 L M σ) : QP T FN dr (Qd T FN dr) M σ (s_setBrackets X K d 18 L σ) := by
  obtain ⟨hQ, hI⟩ := (show Qd T FN dr M σ ∧ (True) from hJ)
  exact QP_some (Qd_k rfl hQ) (K0_k rfl)
theorem qv_11 {X : Nat → Nat → Nat → (Nat → Int32) → MS → Option (Int32 × MS)} (hX : ∀ e m b L (σ : MS) M, m ≠ 9 → Iv T FN dr m b L M σ → QP T FN dr (Qd T FN dr) M σ (X e m b L σ)) (h9 : ∀ e b L (σ : MS) M, Iv T FN dr 9 b L M σ → QP T FN dr (P9 T FN dr) M σ (X e 9 b L σ)) {K d M b : Nat} {L : Nat → Int32} {σ : MS} (hJ : Iv T FN dr 11 b L M σ) : QP T FN dr (Qd T FN dr) M σ (s_setBrackets X K d b L σ) := by
  match b, hJ with
  | 0, hJ => exact qv_11_0 hX h9 hJ
  | 1, hJ => exact qv_11_1 hX h9 hJ
  | 2, hJ => exact qv_11_2 hX h9 hJ
  | 3, hJ => exact qv_11_3 hX h9 hJ
  | 4, hJ => exact qv_11_4 hX h9 hJ
  | 5, hJ => exact qv_11_5 hX h9 hJ
  | 6, hJ => exact qv_11_6 hX h9 hJ
  | 7, hJ => exact qv_11_7 hX h9 hJ
  | 8, hJ => exact qv_11_8 hX h9 hJ
  | 9, hJ => exact qv_11_9 hX h9 hJ
  | 10, hJ => exact qv_11_10 hX h9 hJ
  | 11, hJ => exact qv_11_11 hX h9 hJ
  | 12, hJ => exact qv_11_12 hX h9 hJ
  | 13, hJ => exact qv_11_13 hX h9 hJ
  | 14, hJ => exact qv_11_14 hX h9 hJ
  | 15, hJ => exact qv_11_15 hX h9 hJ
  | 16, hJ => exact qv_11_16 hX h9 hJ
  | 17, hJ => exact qv_11_17 hX h9 hJ
  | 18, hJ => exact qv_11_18 hX h9 hJ
  | b + 19, _ => exact QP_no
theorem qv_12_0 {X : Nat → Nat → Nat → (Nat → Int32) → MS → Option (Int32 × MS)} (hX : ∀ e m b L (σ : MS) M, m ≠ 9 → Iv T FN dr m b L M σ → QP T FN dr (Qd T FN dr) M σ (X e m b L σ)) (h9 : ∀ e b L (σ : MS) M, Iv T FN dr 9 b L M σ → QP T FN dr (P9 T FN dr) M σ (X e 9 b L σ)) {K d M : Nat} {L : Nat → Int32} {σ : MS} (hJ : Iv T FN dr 12 0 L M σ) : QP T FN dr (Qd T FN dr) M σ (s_tupleBrackets X K d 0 L σ) := by
  obtain ⟨hQ, hI⟩ := (show Qd T FN dr M σ ∧ (I10 T FN dr (L 1)) from hJ)
  refine QP_chk (fun u1 => ?_)
  exact QP_t2 (hX _ 12 1 _ _ _ (by decide) ⟨Qd_h hQ rfl, (show qN T FN dr 3 ((σ.2.2 6 ((L 1)).toNatClampNeg)) from by rw [rd hQ (hI.1) 6 (by decide) (by decide)]; exact hI.2)⟩) rfl
theorem qv_12_1 {X : Nat → Nat → Nat → (Nat → Int32) → MS → Option (Int32 × MS)} (hX : ∀ e m b L (σ : MS) M, m ≠ 9 → Iv T FN dr m b L M σ → QP T FN dr (Qd T FN dr) M σ (X e m b L σ)) (h9 : ∀ e b L (σ : MS) M, Iv T FN dr 9 b L M σ → QP T FN dr (P9 T FN dr) M σ (X e 9 b L σ)) {K d M : Nat} {L : Nat → Int32} {σ : MS} (hJ : Iv T FN dr 12 1 L M σ) : QP T FN dr (Qd T FN dr) M σ (s_tupleBrackets X K d 1 L σ) := by
  obtain ⟨hQ, hI⟩ := (show Qd T FN dr M σ ∧ (qN T FN dr 3 (L 5)) from hJ)
  refine QP_ite (fun u1 => ?_) (fun u1 => ?_)
  · skip
    exact QP_t2 (hX _ 12 11 _ _ _ (by decide) ⟨Qd_h hQ rfl, (show True from trivial)⟩) rfl
  · skip
    refine QP_ite (fun u2 => ?_) (fun u2 => ?_)
    · skip
      refine QP_od (fun e3 => ?_)
      refine QP_oX (hX _ 4 0 _ _ _ (by decide) ⟨hQ, (show qN T FN dr 0 ((L 5)) from ((cL hI).resolve_left u1).2.1)⟩) (fun r3 Mr3 hMr3 hQr3 => ?_)
      refine QP_ite (fun u3 => ?_) (fun u3 => ?_)
      · skip
        refine QP_ob (kr_pop _ _ _ _) hQr3 (fun r5 er5 kr5 hQr5 => ?_)
        exact QP_t2 (hX _ 12 3 _ _ _ (by decide) ⟨Qd_h hQr5 rfl, (show qN T FN dr 3 (L 5) from hI)⟩) rfl
      · skip
        exact QP_t2 (hX _ 12 2 _ _ _ (by decide) ⟨Qd_h hQr3 rfl, (show qN T FN dr 3 (L 5) from hI)⟩) rfl
    · skip
      exact QP_t2 (hX _ 12 11 _ _ _ (by decide) ⟨Qd_h hQ rfl, (show True from trivial)⟩) rfl
theorem qv_12_2 {X : Nat → Nat → Nat → (Nat → Int32) → MS → Option (Int32 × MS)} (hX : ∀ e m b L (σ : MS) M, m ≠ 9 → Iv T FN dr m b L M σ → QP T FN dr (Qd T FN dr) M σ (X e m b L σ)) (h9 : ∀ e b L (σ : MS) M, Iv T FN dr 9 b L M σ → QP T FN dr (P9 T FN dr) M σ (X e 9 b L σ)) {K d M : Nat} {L : Nat → Int32} {σ : MS} (hJ : Iv T FN dr 12 2 L M σ) : QP T FN dr (Qd T FN dr) M σ (s_tupleBrackets X K d 2 L σ) := by
  obtain ⟨hQ, hI⟩ := (show Qd T FN dr M σ ∧ (qN T FN dr 3 (L 5)) from hJ)
  exact QP_t2 (hX _ 12 3 _ _ _ (by decide) ⟨Qd_h hQ rfl, (show qN T FN dr 3 (L 5) from hI)⟩) rfl
theorem qv_12_3 {X : Nat → Nat → Nat → (Nat → Int32) → MS → Option (Int32 × MS)} (hX : ∀ e m b L (σ : MS) M, m ≠ 9 → Iv T FN dr m b L M σ → QP T FN dr (Qd T FN dr) M σ (X e m b L σ)) (h9 : ∀ e b L (σ : MS) M, Iv T FN dr 9 b L M σ → QP T FN dr (P9 T FN dr) M σ (X e 9 b L σ)) {K d M : Nat} {L : Nat → Int32} {σ : MS} (hJ : Iv T FN dr 12 3 L M σ) : QP T FN dr (Qd T FN dr) M σ (s_tupleBrackets X K d 3 L σ) := by
  obtain ⟨hQ, hI⟩ := (show Qd T FN dr M σ ∧ (qN T FN dr 3 (L 5)) from hJ)
  refine QP_ite (fun u1 => ?_) (fun u1 => ?_)
  · skip
    exact QP_t2 (hX _ 12 7 _ _ _ (by decide) ⟨Qd_h hQ rfl, (show qN T FN dr 3 (L 5) from hI)⟩) rfl
  · skip
    exact QP_t2 (hX _ 12 4 _ _ _ (by decide) ⟨Qd_h hQ rfl, (show qN T FN dr 3 (L 5) from hI)⟩) rfl
theorem qv_12_4 {X : Nat → Nat → Nat → (Nat → Int32) → MS → Option (Int32 × MS)} (hX : ∀ e m b L (σ : MS) M, m ≠ 9 → Iv T FN dr m b L M σ → QP T FN dr (Qd T FN dr) M σ (X e m b L σ)) (h9 : ∀ e b L (σ : MS) M, Iv T FN dr 9 b L M σ → QP T FN dr (P9 T FN dr) M σ (X e 9 b L σ)) {K d M : Nat} {L : Nat → Int32} {σ : MS} (hJ : Iv T FN dr 12 4 L M σ) : QP T FN dr (Qd T FN dr) M σ (s_tupleBrackets X K d 4 L σ) := by
  obtain ⟨hQ, hI⟩ := (show Qd T FN dr M σ ∧ (qN T FN dr 3 (L 5)) from hJ)
  refine QP_ite (fun u1 => ?_) (fun u1 => ?_)
  · skip
    exact QP_t2 (hX _ 12 7 _ _ _ (by decide) ⟨Qd_h hQ rfl, (show qN T FN dr 3 (L 5) from hI)⟩) rfl
  · skip
    refine QP_ob (kr_size _ _ _ _) hQ (fun r2 er2 kr2 hQr2 => ?_)
    exact QP_t2 (hX _ 12 5 _ _ _ (by decide) ⟨Qd_h hQr2 rfl, (show qN T FN dr 3 (L 5) from hI)⟩) rfl
theorem qv_12_5 {X : Nat → Nat → Nat → (Nat → Int32) → MS → Option (Int32 × MS)} (hX : ∀ e m b L (σ : MS) M, m ≠ 9 → Iv T FN dr m b L M σ → QP T FN dr (Qd T FN dr) M σ (X e m b L σ)) (h9 : ∀ e b L (σ : MS) M, Iv T FN dr 9 b L M σ → QP T FN dr (P9 T FN dr) M σ (X e 9 b L σ)) {K d M : Nat} {L : Nat → Int32} {σ : MS} (hJ : Iv T FN dr 12 5 L M σ) : QP T FN dr (Qd T FN dr) M σ (s_tupleBrackets X K d 5 L σ) := by
  obtain ⟨hQ, hI⟩ := (show Qd T FN dr M σ ∧ (qN T FN dr 3 (L 5)) from hJ)
  refine QP_ite (fun u1 => ?_) (fun u1 => ?_)
  · skip
    exact QP_t2 (hX _ 12 6 _ _ _ (by decide) ⟨Qd_h hQ rfl, (show qN T FN dr 3 (L 5) from hI)⟩) rfl
  · skip
    refine QP_ite (fun u2 => ?_) (fun u2 => ?_)
    · skip
      exact QP_t2 (hX _ 12 6 _ _ _ (by decide) ⟨Qd_h hQ rfl, (show qN T FN dr 3 (L 5) from hI)⟩) rfl
    · skip
      refine QP_ob (kr_push _ _ _ _) hQ (fun r3 er3 kr3 hQr3 => ?_)
      exact QP_t2 (hX _ 12 5 _ _ _ (by decide) ⟨Qd_h hQr3 rfl, (show qN T FN dr 3 (L 5) from hI)⟩) rfl
theorem qv_12_6 {X : Nat → Nat → Nat → (Nat → Int32) → MS → Option (Int32 × MS)} (hX : ∀ e m b L (σ : MS) M, m ≠ 9 → Iv T FN dr m b L M σ → QP T FN dr (Qd T FN dr) M σ (X e m b L σ)) (h9 : ∀ e b L (σ : MS) M, Iv T FN dr 9 b L M σ → QP T FN dr (P9 T FN dr) M σ (X e 9 b L σ)) {K d M : Nat} {L : Nat → Int32} {σ : MS} (hJ : Iv T FN dr 12 6 L M σ) : QP T FN dr (Qd T FN dr) M σ (s_tupleBrackets X K d 6 L σ) := by
  obtain ⟨hQ, hI⟩ := (show Qd T FN dr M σ ∧ (qN T FN dr 3 (L 5)) from hJ)
  refine QP_ob (kr_push _ _ _ _) hQ (fun r1 er1 kr1 hQr1 => ?_)
  exact QP_t2 (hX _ 12 7 _ _ _ (by decide) ⟨Qd_h hQr1 rfl, (show qN T FN dr 3 (L 5) from hI)⟩) rfl
theorem qv_12_7 {X : Nat → Nat → Nat → (Nat → Int32) → MS → Option (Int32 × MS)} (hX : ∀ e m b L (σ : MS) M, m ≠ 9 → Iv T FN dr m b L M σ → QP T FN dr (Qd T FN dr) M σ (X e m b L σ)) (h9 : ∀ e b L (σ : MS) M, Iv T FN dr 9 b L M σ → QP T FN dr (P9 T FN dr) M σ (X e 9 b L σ)) {K d M : Nat} {L : Nat → Int32} {σ : MS} (hJ : Iv T FN dr 12 7 L M σ) : QP T FN dr (Qd T FN dr) M σ (s_tupleBrackets X K d 7 L σ) := by
  obtain ⟨hQ, hI⟩ := (show Qd T FN dr M σ ∧ (qN T FN dr 3 (L 5)) from hJ)
  refine QP_ite (fun u1 => ?_) (fun u1 => ?_)
  · skip
    exact QP_t2 (hX _ 12 8 _ _ _ (by decide) ⟨Qd_h hQ rfl, (show qN T FN dr 3 (L 5) from hI)⟩) rfl
  · skip
    exact QP_t2 (hX _ 12 9 _ _ _ (by decide) ⟨Qd_h hQ rfl, (show qN T FN dr 3 (L 5) from hI)⟩) rfl
theorem qv_12_8 {X : Nat → Nat → Nat → (Nat → Int32) → MS → Option (Int32 × MS)} (hX : ∀ e m b L (σ : MS) M, m ≠ 9 → Iv T FN dr m b L M σ → QP T FN dr (Qd T FN dr) M σ (X e m b L σ)) (h9 : ∀ e b L (σ : MS) M, Iv T FN dr 9 b L M σ → QP T FN dr (P9 T FN dr) M σ (X e 9 b L σ)) {K d M : Nat} {L : Nat → Int32} {σ : MS} (hJ : Iv T FN dr 12 8 L M σ) : QP T FN dr (Qd T FN dr) M σ (s_tupleBrackets X K d 8 L σ) := by
  obtain ⟨hQ, hI⟩ := (show Qd T FN dr M σ ∧ (qN T FN dr 3 (L 5)) from hJ)
  exact QP_t2 (hX _ 12 9 _ _ _ (by decide) ⟨Qd_h hQ rfl, (show qN T FN dr 3 (L 5) from hI)⟩) rfl
theorem qv_12_9 {X : Nat → Nat → Nat → (Nat → Int32) → MS → Option (Int32 × MS)} (hX : ∀ e m b L (σ : MS) M, m ≠ 9 → Iv T FN dr m b L M σ → QP T FN dr (Qd T FN dr) M σ (X e m b L σ)) (h9 : ∀ e b L (σ : MS) M, Iv T FN dr 9 b L M σ → QP T FN dr (P9 T FN dr) M σ (X e 9 b L σ)) {K d M : Nat} {L : Nat → Int32} {σ : MS} (hJ : Iv T FN dr 12 9 L M σ) : QP T FN dr (Qd T FN dr) M σ (s_tupleBrackets X K d 9 L σ) := by
  obtain ⟨hQ, hI⟩ := (show Qd T FN dr M σ ∧ (qN T FN dr 3 (L 5)) from hJ)
  exact QP_t2 (hX _ 12 10 _ _ _ (by decide) ⟨Qd_h hQ rfl, (show qN T FN dr 3 (L 5) from hI)⟩) rfl
theorem qv_12_10 {X : Nat → Nat → Nat → (Nat → Int32) → MS → Option (Int32 × MS)} (hX : ∀ e m b L (σ : MS) M, m ≠ 9 → Iv T FN dr m b L M σ → QP T FN dr (Qd T FN dr) M σ (X e m b L σ)) (h9 : ∀ e b L (σ : MS) M, Iv T FN dr 9 b L M σ → QP T FN dr (P9 T FN dr) M σ (X e 9 b L σ)) {K d M : Nat} {L : Nat → Int32} {σ : MS} (hJ : Iv T FN dr 12 10 L M σ) : QP T FN dr (Qd T FN dr) M σ (s_tupleBrackets X K d 10 L σ) := by
  obtain ⟨hQ, hI⟩ := (show Qd T FN dr M σ ∧ (qN T FN dr 3 (L 5)) from hJ)
  refine QP_chk (fun u1 => ?_)
  exact QP_t2 (hX _ 12 1 _ _ _ (by decide) ⟨Qd_h hQ rfl, (show qN T FN dr 3 ((σ.2.2 9 ((L 5)).toNatClampNeg)) from by rw [rd hQ ((cLc hI u1).1) 9 (by decide) (by decide)]; exact (cLc hI u1).2)⟩) rfl
theorem qv_12_11 {X : Nat → Nat → Nat → (Nat → Int32) → MS → Option (Int32 × MS)} (hX : ∀ e m b L (σ : MS) M, m ≠ 9 → Iv T FN dr m b L M σ → QP T FN dr (Qd T FN dr) M σ (X e m b L σ)) (h9 : ∀ e b L (σ : MS) M, Iv T FN dr 9 b L M σ → QP T FN dr (P9 T FN dr) M σ (X e 9 b L σ)) {K d M : Nat} {L : Nat → Int32} {σ : MS} (hJ : Iv T FN dr 12 11 L M σ) : QP T FN dr (Qd T FN dr) M σ (s_tupleBrackets X K d 11 L σ) := by
  obtain ⟨hQ, hI⟩ := (show Qd T FN dr M σ ∧ (True) from hJ)
  refine QP_ite (fun u1 => ?_) (fun u1 => ?_)
  · skip
    refine QP_ite (fun u2 => ?_) (fun u2 => ?_)
    · skip
      exact QP_t2 (hX _ 12 12 _ _ _ (by decide) ⟨Qd_h hQ rfl, (show True from trivial)⟩) rfl
    · skip
      refine QP_ob (kr_fail _ _ _ _) hQ (fun r3 er3 kr3 hQr3 => ?_)
      exact QP_t2 (hX _ 12 12 _ _ _ (by decide) ⟨Qd_h hQr3 rfl, (show True from trivial)⟩) rfl
  · skip
    exact QP_t2 (hX _ 12 12 _ _ _ (by decide) ⟨Qd_h hQ rfl, (show True from trivial)⟩) rfl
theorem qv_12_12 {X : Nat → Nat → Nat → (Nat → Int32) → MS → Option (Int32 × MS)} (hX : ∀ e m b L (σ : MS) M, m ≠ 9 → Iv T FN dr m b L M σ → QP T FN dr (Qd T FN dr) M σ (X e m b L σ)) (h9 : ∀ e b L (σ : MS) M, Iv T FN dr 9 b L M σ → QP T FN dr (P9 T FN dr) M σ (X e 9 b L σ)) {K d M : Nat} {L : Nat → Int32} {σ : MS} (hJ : Iv T FN dr 12 12 L M σ) : QP T FN dr (Qd T FN dr) M σ (s_tupleBrackets X K d 12 L σ) := by
  obtain ⟨hQ, hI⟩ := (show Qd T FN dr M σ ∧ (True) from hJ)
  refine QP_ite (fun u1 => ?_) (fun u1 => ?_)
  · skip
    refine QP_ob (kr_sweep _ _ _ _) hQ (fun r2 er2 kr2 hQr2 => ?_)
    refine QP_ob (kr_tupleOf _ _ _ _) hQr2 (fun r3 er3 kr3 hQr3 => ?_)
    refine QP_ob (kr_answer _ _ _ _) hQr3 (fun r4 er4 kr4 hQr4 => ?_)
    refine QP_ob (kr_push _ _ _ _) hQr4 (fun r5 er5 kr5 hQr5 => ?_)
    exact QP_t2 (hX _ 12 13 _ _ _ (by decide) ⟨Qd_h hQr5 rfl, (show True from trivial)⟩) rfl
  · skip
    exact QP_t2 (hX _ 12 13 _ _ _ (by decide) ⟨Qd_h hQ rfl, (show True from trivial)⟩) rfl
theorem qv_12_13 {X : Nat → Nat → Nat → (Nat → Int32) → MS → Option (Int32 × MS)} (hX : ∀ e m b L (σ : MS) M, m ≠ 9 → Iv T FN dr m b L M σ → QP T FN dr (Qd T FN dr) M σ (X e m b L σ)) (h9 : ∀ e b L (σ : MS) M, Iv T FN dr 9 b L M σ → QP T FN dr (P9 T FN dr) M σ (X e 9 b L σ)) {K d M : Nat} {L : Nat → Int32} {σ : MS} (hJ : Iv T FN dr 12 13 L M σ) : QP T FN dr (Qd T FN dr) M σ (s_tupleBrackets X K d 13 L σ) := by
  obtain ⟨hQ, hI⟩ := (show Qd T FN dr M σ ∧ (True) from hJ)
  exact QP_some (Qd_k rfl hQ) (K0_k rfl)
theorem qv_12 {X : Nat → Nat → Nat → (Nat → Int32) → MS → Option (Int32 × MS)} (hX : ∀ e m b L (σ : MS) M, m ≠ 9 → Iv T FN dr m b L M σ → QP T FN dr (Qd T FN dr) M σ (X e m b L σ)) (h9 : ∀ e b L (σ : MS) M, Iv T FN dr 9 b L M σ → QP T FN dr (P9 T FN dr) M σ (X e 9 b L σ)) {K d M b : Nat} {L : Nat → Int32} {σ : MS} (hJ : Iv T FN dr 12 b L M σ) : QP T FN dr (Qd T FN dr) M σ (s_tupleBrackets X K d b L σ) := by
  match b, hJ with
  | 0, hJ => exact qv_12_0 hX h9 hJ
  | 1, hJ => exact qv_12_1 hX h9 hJ
  | 2, hJ => exact qv_12_2 hX h9 hJ
  | 3, hJ => exact qv_12_3 hX h9 hJ
  | 4, hJ => exact qv_12_4 hX h9 hJ
  | 5, hJ => exact qv_12_5 hX h9 hJ
  | 6, hJ => exact qv_12_6 hX h9 hJ
  | 7, hJ => exact qv_12_7 hX h9 hJ
  | 8, hJ => exact qv_12_8 hX h9 hJ
  | 9, hJ => exact qv_12_9 hX h9 hJ
  | 10, hJ => exact qv_12_10 hX h9 hJ
  | 11, hJ => exact qv_12_11 hX h9 hJ
  | 12, hJ => exact qv_12_12 hX h9 hJ
  | 13, hJ => exact qv_12_13 hX h9 hJ
  | b + 14, _ => exact QP_no
theorem qv_all : ∀ k, (∀ d m b L (σ : MS) M, m ≠ 9 → Iv T FN dr m b L M σ → QP T FN dr (Qd T FN dr) M σ (x_GV k d m b L σ)) ∧ (∀ d b L (σ : MS) M, Iv T FN dr 9 b L M σ → QP T FN dr (P9 T FN dr) M σ (x_GV k d 9 b L σ)) := by
  intro k
  induction k with
  | zero => exact ⟨fun _ _ _ _ _ _ _ _ => QP_no, fun _ _ _ _ _ _ => QP_no⟩
  | succ k ih =>
    refine ⟨fun d m b L σ M hm hJ => ?_, fun d b L σ M hJ => qv_9 (K := k) ih.1 ih.2 hJ⟩
    match m, hm, hJ with
    | 0, _, hJ => exact qv_0 (K := k) ih.1 ih.2 hJ
    | 1, _, hJ => exact qv_1 (K := k) ih.1 ih.2 hJ
    | 2, _, hJ => exact qv_2 (K := k) ih.1 ih.2 hJ
    | 3, _, hJ => exact qv_3 (K := k) ih.1 ih.2 hJ
    | 4, _, hJ => exact qv_4 (K := k) ih.1 ih.2 hJ
    | 5, _, hJ => exact qv_5 (K := k) ih.1 ih.2 hJ
    | 6, _, hJ => exact qv_6 (K := k) ih.1 ih.2 hJ
    | 7, _, hJ => exact qv_7 (K := k) ih.1 ih.2 hJ
    | 8, _, hJ => exact qv_8 (K := k) ih.1 ih.2 hJ
    | 9, hm, _ => exact absurd rfl hm
    | 10, _, hJ => exact qv_10 (K := k) ih.1 ih.2 hJ
    | 11, _, hJ => exact qv_11 (K := k) ih.1 ih.2 hJ
    | 12, _, hJ => exact qv_12 (K := k) ih.1 ih.2 hJ
    | m + 13, _, _ => exact QP_no
end QVM
