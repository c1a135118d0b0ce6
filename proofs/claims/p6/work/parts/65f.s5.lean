/-! The reference reads tokens. -/
theorem n_int {p : Nat} (h : p < 2147483648) : (nI p).toInt = p := i_ofNat h
theorem n_cl {p : Nat} (h : p < 2147483648) : (nI p).toNatClampNeg = p := nI_clamp h
theorem n_add1 (p : Nat) : nI p + 1 = nI (p + 1) := (nI_succ p).symm
theorem n_le {p q : Nat} (hp : p < 2147483648) (hq : q < 2147483648) : nI p ≤ nI q ↔ p ≤ q := by rw [i_le, n_int hp, n_int hq]; omega
theorem n_lt {p q : Nat} (hp : p < 2147483648) (hq : q < 2147483648) : nI p < nI q ↔ p < q := by rw [i_lt, n_int hp, n_int hq]; omega
theorem n_eq {p q : Nat} (hp : p < 2147483648) (hq : q < 2147483648) : nI p = nI q ↔ p = q := by rw [i_eq, n_int hp, n_int hq]; omega
theorem n_in {p n : Nat} (hp : p < 2147483648) (h : p < n) : ¬ (nI p < 0 ∨ n ≤ (nI p).toNatClampNeg) := i_in (by rw [n_int hp]; omega) (by rw [n_int hp]; omega)
/-- byte p of a tape of n bytes, 0 behind it -/
def rB (T : Nat → Int32) (n p : Nat) : Int32 := if p < n then T p else 0
/-- the reference's tape has n bytes -/
def mN (σ : MS) (n : Nat) : Prop := σ.1 4 = nI n ∧ n ≤ 32768
theorem s_byteAt {L : Nat → Int32} {σ : MS} {n p : Nat} (hn : mN σ n) (hp : p < 2147483648) (h1 : L 1 = nI p) : Tm (fun k => x_byteAt k 0 L σ) (fun r => r = (rB (σ.2.2 3) n p, σ)) := by
  obtain ⟨h4, hn⟩ := hn
  refine Tm_suc (fun k => by rw [x_byteAt]) ?_
  rw [h4, h1]
  refine Tm_ite (fun c => ?_) (fun c => ?_)
  · rw [n_le (by omega) hp] at c
    refine Tm_suc (fun k => by rw [x_byteAt]) ?_
    refine Tm_suc (fun k => by rw [x_byteAt]) ?_
    refine Tm_some ?_
    rw [upd_same]; unfold rB; rw [if_neg (by omega)]
  · rw [n_le (by omega) hp] at c
    refine Tm_chk (n_in hp (by omega)) ?_
    refine Tm_suc (fun k => by rw [x_byteAt]) ?_
    refine Tm_some ?_
    rw [upd_same, n_cl hp]; unfold rB; rw [if_pos (by omega)]
abbrev isL (c : Int32) : Prop := (65 ≤ c ∧ c ≤ 90) ∨ (97 ≤ c ∧ c ≤ 122)
abbrev isD (c : Int32) : Prop := 48 ≤ c ∧ c ≤ 57
theorem s_isLetter (L : Nat → Int32) (σ : MS) : Tm (fun k => x_isLetter k 0 L σ) (fun r => r.2 = σ ∧ (¬ r.1 = 0 ↔ isL (L 0))) := by
  have yes : ∀ M : Nat → Int32, isL (L 0) → Tm (fun k => x_isLetter k 2 M σ) (fun r => r.2 = σ ∧ (¬ r.1 = 0 ↔ isL (L 0))) := fun M h => by
    refine Tm_suc (fun k => by rw [x_isLetter]) ?_
    refine Tm_suc (fun k => by rw [x_isLetter]) ?_
    refine Tm_chk (Or.inr upd_same) ?_
    refine Tm_some ⟨rfl, ?_⟩
    show ¬ upd M 100 1 100 = 0 ↔ _
    rw [upd_same]
    exact ⟨fun _ => h, fun _ => by decide⟩
  have no : ∀ M : Nat → Int32, ¬ isL (L 0) → Tm (fun k => x_isLetter k 3 M σ) (fun r => r.2 = σ ∧ (¬ r.1 = 0 ↔ isL (L 0))) := fun M h => by
    refine Tm_suc (fun k => by rw [x_isLetter]) ?_
    refine Tm_suc (fun k => by rw [x_isLetter]) ?_
    refine Tm_chk (Or.inl upd_same) ?_
    refine Tm_some ⟨rfl, ?_⟩
    show ¬ upd M 100 0 100 = 0 ↔ _
    rw [upd_same]
    exact ⟨fun q => absurd rfl q, fun q => absurd q h⟩
  have k65 : (65 : Int32).toInt = 65 := rfl
  have k90 : (90 : Int32).toInt = 90 := rfl
  have k97 : (97 : Int32).toInt = 97 := rfl
  have k122 : (122 : Int32).toInt = 122 := rfl
  have iff : isL (L 0) ↔ ((65 ≤ (L 0).toInt ∧ (L 0).toInt ≤ 90) ∨ (97 ≤ (L 0).toInt ∧ (L 0).toInt ≤ 122)) := by unfold isL; rw [i_le, i_le, i_le, i_le, k65, k90, k97, k122]
  have second : ((L 0).toInt < 65 ∨ 90 < (L 0).toInt) → Tm (fun k => x_isLetter k 1 L σ) (fun r => r.2 = σ ∧ (¬ r.1 = 0 ↔ isL (L 0))) := fun h => by
    refine Tm_suc (fun k => by rw [x_isLetter]) ?_
    refine Tm_ite (fun c => ?_) (fun c => ?_)
    · rw [i_lt, k97] at c; exact no L (by rw [iff]; omega)
    · rw [i_lt, k97] at c
      refine Tm_ite (fun c2 => ?_) (fun c2 => ?_)
      · rw [i_lt, k122] at c2; exact no L (by rw [iff]; omega)
      · rw [i_lt, k122] at c2; exact yes L (by rw [iff]; omega)
  refine Tm_suc (fun k => by rw [x_isLetter]) ?_
  refine Tm_ite (fun c => ?_) (fun c => ?_)
  · rw [i_lt, k65] at c; exact second (Or.inl c)
  · rw [i_lt, k65] at c
    refine Tm_ite (fun c2 => ?_) (fun c2 => ?_)
    · rw [i_le, k90] at c2; exact yes L (by rw [iff]; omega)
    · rw [i_le, k90] at c2; exact second (Or.inr (by omega))
theorem s_isDigit (L : Nat → Int32) (σ : MS) : Tm (fun k => x_isDigit k 0 L σ) (fun r => r.2 = σ ∧ (¬ r.1 = 0 ↔ isD (L 0))) := by
  have k48 : (48 : Int32).toInt = 48 := rfl
  have k57 : (57 : Int32).toInt = 57 := rfl
  have iff : isD (L 0) ↔ (48 ≤ (L 0).toInt ∧ (L 0).toInt ≤ 57) := by unfold isD; rw [i_le, i_le, k48, k57]
  have no : ¬ isD (L 0) → Tm (fun k => x_isDigit k 1 L σ) (fun r => r.2 = σ ∧ (¬ r.1 = 0 ↔ isD (L 0))) := fun h => by
    refine Tm_suc (fun k => by rw [x_isDigit]) ?_
    refine Tm_suc (fun k => by rw [x_isDigit]) ?_
    refine Tm_chk (Or.inl upd_same) ?_
    refine Tm_some ⟨rfl, ?_⟩
    show ¬ upd L 100 0 100 = 0 ↔ _
    rw [upd_same]
    exact ⟨fun q => absurd rfl q, fun q => absurd q h⟩
  refine Tm_suc (fun k => by rw [x_isDigit]) ?_
  refine Tm_ite (fun c => ?_) (fun c => ?_)
  · rw [i_lt, k48] at c; exact no (by rw [iff]; omega)
  · rw [i_lt, k48] at c
    refine Tm_ite (fun c2 => ?_) (fun c2 => ?_)
    · rw [i_lt, k57] at c2; exact no (by rw [iff]; omega)
    · rw [i_lt, k57] at c2
      refine Tm_suc (fun k => by rw [x_isDigit]) ?_
      refine Tm_chk (Or.inr upd_same) ?_
      refine Tm_some ⟨rfl, ?_⟩
      show ¬ upd L 100 1 100 = 0 ↔ _
      rw [upd_same]
      exact ⟨fun _ => by rw [iff]; omega, fun _ => by decide⟩
/-- a note goes on as far as this -/
def noteE (T : Nat → Int32) (n : Nat) : Nat → Nat → Nat
  | 0, p => p
  | f + 1, p => if p < n ∧ ¬ T p = 10 then noteE T n f (p + 1) else p
abbrev isB (c : Int32) : Prop := c = 9 ∨ c = 10 ∨ c = 13 ∨ c = 32
abbrev noteB (T : Nat → Int32) (n p : Nat) : Prop := rB T n p = 45 ∧ rB T n (p + 1) = 45
theorem noteE_ge (T : Nat → Int32) (n : Nat) : ∀ f p : Nat, p ≤ noteE T n f p
  | 0, p => Nat.le_refl _
  | f + 1, p => by
    show p ≤ if p < n ∧ ¬ T p = 10 then noteE T n f (p + 1) else p
    by_cases c : p < n ∧ ¬ T p = 10
    · rw [if_pos c]; have := noteE_ge T n f (p + 1); omega
    · rw [if_neg c]; exact Nat.le_refl _
theorem noteE_le (T : Nat → Int32) (n : Nat) : ∀ f p : Nat, p ≤ n → noteE T n f p ≤ n
  | 0, p, h => h
  | f + 1, p, h => by
    show (if p < n ∧ ¬ T p = 10 then noteE T n f (p + 1) else p) ≤ n
    by_cases c : p < n ∧ ¬ T p = 10
    · rw [if_pos c]; exact noteE_le T n f (p + 1) (by omega)
    · rw [if_neg c]; exact h
/-- the state with the place p -/
def mAt (σ : MS) (p : Nat) : MS := (upd σ.1 5 (nI p), σ.2.1, σ.2.2)
theorem mAt_at {σ : MS} {p : Nat} : (mAt σ p).1 5 = nI p := (upd_same : upd σ.1 5 (nI p) 5 = nI p)
theorem mAt_o {σ : MS} {p j : Nat} (h : j ≠ 5) : (mAt σ p).1 j = σ.1 j := (upd_other h : upd σ.1 5 (nI p) j = σ.1 j)
theorem mAt_mN {σ : MS} {p n : Nat} (h : mN σ n) : mN (mAt σ p) n := ⟨by rw [mAt_o (by decide)]; exact h.1, h.2⟩
theorem mAt_mAt {σ : MS} {p q : Nat} : mAt (mAt σ p) q = mAt σ q := by
  show (upd (upd σ.1 5 (nI p)) 5 (nI q), σ.2.1, σ.2.2) = _
  rw [upd_upd]; rfl
theorem mAt_up {σ : MS} {p : Nat} : (upd (mAt σ p).1 5 ((mAt σ p).1 5 + 1), (mAt σ p).2.1, (mAt σ p).2.2) = mAt σ (p + 1) := by
  rw [mAt_at, n_add1]
  show (upd (upd σ.1 5 (nI p)) 5 (nI (p + 1)), σ.2.1, σ.2.2) = _
  rw [upd_upd]; rfl
theorem mAt_self {σ : MS} {p : Nat} (h : σ.1 5 = nI p) : mAt σ p = σ := by
  show (upd σ.1 5 (nI p), σ.2.1, σ.2.2) = _
  rw [← h, upd_self]
theorem note_loop {σ : MS} {n : Nat} (hn : mN σ n) (L : Nat → Int32) (Q : Int32 × MS → Prop) : ∀ (f p : Nat), n - p ≤ f → p ≤ n → Tm (fun k => x_skip k 6 L (mAt σ (noteE (σ.2.2 3) n f p))) Q → Tm (fun k => x_skip k 4 L (mAt σ p)) Q := by
  intro f
  induction f with
  | zero =>
    intro p hf hp t
    have h4 : (mAt σ p).1 4 = nI n := (mAt_mN hn).1
    have := hn.2
    refine Tm_suc (fun k => by rw [x_skip]) ?_
    rw [h4, mAt_at]
    refine Tm_ite (fun c => t) (fun c => ?_)
    rw [n_le (by omega) (by omega)] at c; omega
  | succ f ih =>
    intro p hf hp t
    have h4 : (mAt σ p).1 4 = nI n := (mAt_mN hn).1
    have := hn.2
    have e : noteE (σ.2.2 3) n (f + 1) p = if p < n ∧ ¬ σ.2.2 3 p = 10 then noteE (σ.2.2 3) n f (p + 1) else p := rfl
    rw [e] at t
    refine Tm_suc (fun k => by rw [x_skip]) ?_
    rw [h4, mAt_at]
    refine Tm_ite (fun c => ?_) (fun c => ?_)
    · rw [n_le (by omega) (by omega)] at c
      rw [if_neg (by omega)] at t; exact t
    · rw [n_le (by omega) (by omega)] at c
      refine Tm_chk (n_in (by omega) (by omega)) ?_
      rw [n_cl (by omega)]
      refine Tm_ite (fun c2 => ?_) (fun c2 => ?_)
      · rw [if_neg (fun h => h.2 c2)] at t; exact t
      · rw [if_pos ⟨by omega, c2⟩] at t
        rw [n_add1]
        have e2 : (upd (mAt σ p).1 5 (nI (p + 1)), (mAt σ p).2.1, (mAt σ p).2.2) = mAt σ (p + 1) := by
          show (upd (upd σ.1 5 (nI p)) 5 (nI (p + 1)), σ.2.1, σ.2.2) = _
          rw [upd_upd]; rfl
        rw [e2]
        exact ih (p + 1) (by omega) (by omega) t
