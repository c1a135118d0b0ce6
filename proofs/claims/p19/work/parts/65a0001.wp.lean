section JnWp
/-- from some fuel on the function gives one and the same answer, and Q holds of it -/
def Tm {α : Type} (g : Nat → Option α) (Q : α → Prop) : Prop := ∃ (r : α) (k0 : Nat), (∀ k, k0 ≤ k → g k = some r) ∧ Q r
theorem Tm_some {α : Type} {r : α} {Q : α → Prop} (h : Q r) : Tm (fun _ => some r) Q := ⟨r, 0, fun _ _ => rfl, h⟩
theorem Tm_suc {α : Type} {g h : Nat → Option α} {Q : α → Prop} (e : ∀ k, g (k + 1) = h k) (t : Tm h Q) : Tm g Q := by
  obtain ⟨r, k0, h1, h2⟩ := t
  refine ⟨r, k0 + 1, fun k hk => ?_, h2⟩
  obtain ⟨j, rfl⟩ : ∃ j, k = j + 1 := ⟨k - 1, by omega⟩
  rw [e]; exact h1 j (by omega)
theorem Tm_ite {α : Type} {c : Prop} {_ : Decidable c} {g h : Nat → Option α} {Q : α → Prop} (t : c → Tm g Q) (u : ¬ c → Tm h Q) : Tm (fun k => if c then g k else h k) Q := by
  by_cases hc : c
  · simp only [if_pos hc]; exact t hc
  · simp only [if_neg hc]; exact u hc
theorem Tm_chk {α : Type} {c : Prop} {_ : Decidable c} {g : Nat → Option α} {Q : α → Prop} (hc : c) (t : Tm g Q) : Tm (fun k => if c then g k else none) Q := by
  simp only [if_pos hc]; exact t
theorem Tm_chk0 {α : Type} {c : Prop} {_ : Decidable c} {g : Nat → Option α} {Q : α → Prop} (hc : ¬ c) (t : Tm g Q) : Tm (fun k => if c then none else g k) Q := by
  simp only [if_neg hc]; exact t
theorem Tm_mono {α : Type} {g : Nat → Option α} {Q Q' : α → Prop} (t : Tm g Q) (h : ∀ r, Q r → Q' r) : Tm g Q' := by
  obtain ⟨r, k0, h1, h2⟩ := t
  exact ⟨r, k0, h1, h r h2⟩
theorem Tm_ob {x : Nat → Option (Int32 × MS)} {f : Nat → Int32 × MS → Option (Int32 × MS)} {P Q : Int32 × MS → Prop} (t : Tm x P) (h : ∀ r, P r → Tm (fun k => f k r) Q) : Tm (fun k => ob (x k) (f k)) Q := by
  obtain ⟨r, k0, h1, h2⟩ := t
  obtain ⟨q, k1, h3, h4⟩ := h r h2
  refine ⟨q, max k0 k1, fun k hk => ?_, h4⟩
  show ob (x k) (f k) = some q
  rw [h1 k (by omega)]; exact h3 k (by omega)
theorem Tm_op {x : Nat → Option (Int32 × CS)} {f : Nat → Int32 × CS → Option RS} {P : Int32 × CS → Prop} {Q : RS → Prop} (t : Tm x P) (h : ∀ r, P r → Tm (fun k => f k r) Q) : Tm (fun k => op (x k) (f k)) Q := by
  obtain ⟨r, k0, h1, h2⟩ := t
  obtain ⟨q, k1, h3, h4⟩ := h r h2
  refine ⟨q, max k0 k1, fun k hk => ?_, h4⟩
  show op (x k) (f k) = some q
  rw [h1 k (by omega)]; exact h3 k (by omega)
theorem Tm_ox {x : Nat → Option RS} {f : Nat → RS → Option RS} {P Q : RS → Prop} (t : Tm x P) (hx : ∀ r, P r → ¬ r.1.1 = 0 → Q r) (h : ∀ r, P r → r.1.1 = 0 → Tm (fun k => f k r) (fun q => Q (q.1, q.2.1, (r.2.2.1 + q.2.2.1, r.2.2.2 + q.2.2.2)))) : Tm (fun k => ox (x k) (f k)) Q := by
  obtain ⟨r, k0, h1, h2⟩ := t
  by_cases h0 : r.1.1 = 0
  · obtain ⟨q, k1, h3, h4⟩ := h r h2 h0
    refine ⟨(q.1, q.2.1, (r.2.2.1 + q.2.2.1, r.2.2.2 + q.2.2.2)), max k0 k1, fun k hk => ?_, h4⟩
    show ox (x k) (f k) = _
    rw [h1 k (by omega)]
    show (if r.1.1 = 0 then adR r.2.2 (f k r) else some r) = _
    rw [if_pos h0, show f k r = some q from h3 k (by omega)]; rfl
  · refine ⟨r, k0, fun k hk => ?_, hx r h2 h0⟩
    show ox (x k) (f k) = _
    rw [h1 k hk]
    show (if r.1.1 = 0 then adR r.2.2 (f k r) else some r) = _
    rw [if_neg h0]
theorem Tm_adR {c : Nat × Nat} {x : Nat → Option RS} {Q : RS → Prop} (t : Tm x (fun q => Q (q.1, q.2.1, (c.1 + q.2.2.1, c.2 + q.2.2.2)))) : Tm (fun k => adR c (x k)) Q := by
  obtain ⟨r, k0, h1, h2⟩ := t
  exact ⟨_, k0, fun k hk => by show adR c (x k) = _; rw [h1 k hk]; rfl, h2⟩
/-! The reference: methods that answer at once. -/
theorem s_good (L : Nat → Int32) (σ : MS) : Tm (fun k => x_good k 0 L σ) (fun r => r = (if L 1 = 0 then 1 else 0, (upd σ.1 2 (L 1), σ.2.1, σ.2.2))) := by
  refine Tm_suc (fun k => by rw [x_good]) ?_
  refine Tm_suc (fun k => by rw [x_good]) ?_
  refine Tm_ite (fun c => ?_) (fun c => ?_)
  · refine Tm_suc (fun k => by rw [x_good]) ?_
    refine Tm_chk (Or.inr rfl) ?_
    exact Tm_some (by rw [if_pos c]; rfl)
  · refine Tm_suc (fun k => by rw [x_good]) ?_
    refine Tm_suc (fun k => by rw [x_good]) ?_
    refine Tm_chk (Or.inl rfl) ?_
    exact Tm_some (by rw [if_neg c]; rfl)
end JnWp
section JnS1
/-! Int32 as whole numbers. -/
theorem i_lt {x y : Int32} : x < y ↔ x.toInt < y.toInt := Int32.lt_iff_toInt_lt
theorem i_le {x y : Int32} : x ≤ y ↔ x.toInt ≤ y.toInt := Int32.le_iff_toInt_le
theorem i_eq {x y : Int32} : x = y ↔ x.toInt = y.toInt := Int32.toInt_inj.symm
theorem i_bd (x : Int32) : -2147483648 ≤ x.toInt ∧ x.toInt ≤ 2147483647 := ⟨Int32.le_toInt x, by have := Int32.toInt_lt x; omega⟩
theorem i_nat (x : Int32) : (x.toNatClampNeg : Int) = if 0 ≤ x.toInt then x.toInt else 0 := by
  show ((x.toInt.toNat : Nat) : Int) = _
  by_cases h : 0 ≤ x.toInt
  · rw [if_pos h]; omega
  · rw [if_neg h]; omega
theorem i_clamp {x : Int32} (h : 0 ≤ x.toInt) : (x.toNatClampNeg : Int) = x.toInt := by rw [i_nat, if_pos h]
theorem i_add {x y : Int32} (h1 : -2147483648 ≤ x.toInt + y.toInt) (h2 : x.toInt + y.toInt ≤ 2147483647) : (x + y).toInt = x.toInt + y.toInt := by
  rw [Int32.toInt_add]
  exact Int.bmod_eq_of_le (by omega) (by omega)
theorem i_sub {x y : Int32} (h1 : -2147483648 ≤ x.toInt - y.toInt) (h2 : x.toInt - y.toInt ≤ 2147483647) : (x - y).toInt = x.toInt - y.toInt := by
  rw [Int32.toInt_sub]
  exact Int.bmod_eq_of_le (by omega) (by omega)
theorem i_mul {x y : Int32} (h1 : -2147483648 ≤ x.toInt * y.toInt) (h2 : x.toInt * y.toInt ≤ 2147483647) : (x * y).toInt = x.toInt * y.toInt := by
  rw [Int32.toInt_mul]
  exact Int.bmod_eq_of_le (by omega) (by omega)
theorem i_ofNat {n : Nat} (h : n < 2147483648) : (Int32.ofNat n).toInt = n := Int32.toInt_ofNat_of_lt h
theorem i_in {i : Int32} {n : Nat} (h0 : 0 ≤ i.toInt) (h1 : i.toInt < n) : ¬ (i < 0 ∨ n ≤ i.toNatClampNeg) := by
  intro h
  have e := i_clamp h0
  rcases h with h | h
  · rw [i_lt] at h; have : (0 : Int32).toInt = 0 := rfl; omega
  · omega
theorem i_c0 : (0 : Int32).toInt = 0 := rfl
theorem i_c1 : (1 : Int32).toInt = 1 := rfl
theorem upd_same {f : Nat → Int32} {k : Nat} {x : Int32} : upd f k x k = x := if_pos rfl
theorem upd_other {f : Nat → Int32} {k j : Nat} {x : Int32} (h : j ≠ k) : upd f k x j = f j := if_neg h
theorem updG_same {f : Nat → Nat → Int32} {k : Nat} {x : Nat → Int32} : updG f k x k = x := if_pos rfl
theorem updG_other {f : Nat → Nat → Int32} {k j : Nat} {x : Nat → Int32} (h : j ≠ k) : updG f k x j = f j := if_neg h
/-! feed of the reference. -/
/-- byte j of the five numbers -/
def wd (L : Nat → Int32) (j : Nat) : Int32 := L (1 + j / 4)
def by_ (x : Int32) (i : Int32) : Int32 := (x.toUInt32 >>> ((24 - (i - i / 4 * 4) * 8).toUInt32 &&& Int32.toUInt32 31)).toInt32 &&& 255
/-- the tape of the reference with n bytes of L behind it -/
def mTape (τ : MS) (L : Nat → Int32) : Nat → MS
  | 0 => τ
  | n + 1 => let s := mTape τ L n
    (upd s.1 4 (s.1 4 + 1), s.2.1, updG s.2.2 3 (upd (s.2.2 3) (s.1 4).toNatClampNeg (by_ (wd L n) (nI n))))
theorem mTape_len (τ : MS) (L : Nat → Int32) (h0 : 0 ≤ (τ.1 4).toInt) : ∀ n : Nat, (τ.1 4).toInt + n ≤ 2147483647 → ((mTape τ L n).1 4).toInt = (τ.1 4).toInt + n
  | 0, _ => by show (τ.1 4).toInt = _; omega
  | n + 1, h => by
    have ih := mTape_len τ L h0 n (by omega)
    show (upd (mTape τ L n).1 4 ((mTape τ L n).1 4 + 1) 4).toInt = _
    rw [upd_same, i_add] <;> rw [i_c1] <;> omega
theorem feed_loop (L0 : Nat → Int32) (τ : MS) (h0 : 0 ≤ (τ.1 4).toInt) (h1 : (τ.1 4).toInt + 20 ≤ 32768) : ∀ (m n : Nat) (L : Nat → Int32), n + m = 20 → L 6 = nI n → (∀ j, 1 ≤ j → j ≤ 5 → L j = L0 j) → Tm (fun k => x_feed k 4 L (mTape τ L0 n)) (fun r => r = ((mTape τ L0 20).1 4, mTape τ L0 20)) := by
  intro m
  induction m with
  | zero =>
    intro n L hn h6 hL
    obtain rfl : n = 20 := by omega
    refine Tm_suc (fun k => by rw [x_feed]) ?_
    refine Tm_ite (fun c => ?_) (fun c => absurd (by rw [h6]; decide) c)
    refine Tm_suc (fun k => by rw [x_feed]) ?_
    exact Tm_some rfl
  | succ m ih =>
    intro n L hn h6 hL
    have hlen := mTape_len τ L0 h0 n (by omega)
    have h6i : (L 6).toInt = n := by rw [h6]; exact i_ofNat (by omega)
    -- the blocks behind the choice of the word
    have tail : ∀ L1 : Nat → Int32, L1 100 = wd L0 n → L1 6 = nI n → (∀ j, 1 ≤ j → j ≤ 5 → L1 j = L0 j) → Tm (fun k => x_feed k 9 L1 (mTape τ L0 n)) (fun r => r = ((mTape τ L0 20).1 4, mTape τ L0 20)) := by
      intro L1 hw h6 hL
      refine Tm_suc (fun k => by rw [x_feed]) ?_
      refine Tm_chk0 (by decide) ?_
      refine Tm_chk (i_in (by omega) (by omega)) ?_
      refine Tm_suc (fun k => by rw [x_feed]) ?_
      refine Tm_suc (fun k => by rw [x_feed]) ?_
      have := ih (n + 1) (upd (upd L1 7 (L1 100)) 6 ((upd L1 7 (L1 100)) 6 + 1)) (by omega) (by rw [upd_same, upd_other (by decide), h6, nI_succ]) (fun j a b => by rw [upd_other (by omega), upd_other (by omega)]; exact hL j a b)
      rw [hw, h6]
      rw [hw] at this
      exact this
    refine Tm_suc (fun k => by rw [x_feed]) ?_
    refine Tm_ite (fun c => ?_) (fun c => ?_)
    · rw [i_le, h6i] at c; have : (20 : Int32).toInt = 20 := rfl; omega
    have hw : ∀ j : Nat, 1 ≤ j → j ≤ 5 → n / 4 + 1 = j → wd L0 n = L j := fun j a b e => by
      rw [hL j a b]; show L0 (1 + n / 4) = _; rw [Nat.add_comm, e]
    have k4 : (4 : Int32).toInt = 4 := rfl
    have k8 : (8 : Int32).toInt = 8 := rfl
    have k12 : (12 : Int32).toInt = 12 := rfl
    have k16 : (16 : Int32).toInt = 16 := rfl
    have up : ∀ x : Int32, (upd L 100 x) 6 = nI n ∧ ∀ j, 1 ≤ j → j ≤ 5 → (upd L 100 x) j = L0 j := fun x => ⟨by rw [upd_other (by decide)]; exact h6, fun j a b => by rw [upd_other (by omega)]; exact hL j a b⟩
    refine Tm_ite (fun c4 => ?_) (fun c4 => ?_)
    · rw [i_le, h6i, k4] at c4
      refine Tm_suc (fun k => by rw [x_feed]) ?_
      refine Tm_ite (fun c8 => ?_) (fun c8 => ?_)
      · rw [i_le, h6i, k8] at c8
        refine Tm_suc (fun k => by rw [x_feed]) ?_
        refine Tm_ite (fun c12 => ?_) (fun c12 => ?_)
        · rw [i_le, h6i, k12] at c12
          refine Tm_suc (fun k => by rw [x_feed]) ?_
          refine Tm_ite (fun c16 => ?_) (fun c16 => ?_)
          · rw [i_le, h6i, k16] at c16
            refine Tm_suc (fun k => by rw [x_feed]) ?_
            exact tail _ (by rw [upd_same]; exact (hw 5 (by omega) (by omega) (by omega)).symm) (up _).1 (up _).2
          · rw [i_le, h6i, k16] at c16
            exact tail _ (by rw [upd_same]; exact (hw 4 (by omega) (by omega) (by omega)).symm) (up _).1 (up _).2
        · rw [i_le, h6i, k12] at c12
          exact tail _ (by rw [upd_same]; exact (hw 3 (by omega) (by omega) (by omega)).symm) (up _).1 (up _).2
      · rw [i_le, h6i, k8] at c8
        exact tail _ (by rw [upd_same]; exact (hw 2 (by omega) (by omega) (by omega)).symm) (up _).1 (up _).2
    · rw [i_le, h6i, k4] at c4
      exact tail _ (by rw [upd_same]; exact (hw 1 (by omega) (by omega) (by omega)).symm) (up _).1 (up _).2
/-- feed: what it throws is told in field 2 -/
theorem s_feed (L : Nat → Int32) (τ : MS) (h0 : 0 ≤ (τ.1 4).toInt) (h1 : (τ.1 4).toInt ≤ 32768) : Tm (fun k => x_feed k 0 L τ) (fun r => if (τ.1 4).toInt + 20 ≤ 32768 then r.2 = mTape (upd τ.1 2 0, τ.2.1, τ.2.2) L 20 ∧ r.1 = r.2.1 4 else r = (0, (upd τ.1 2 1, τ.2.1, τ.2.2))) := by
  have k20 : (20 : Int32).toInt = 20 := rfl
  have kM : (32768 : Int32).toInt = 32768 := rfl
  have hs : (τ.1 4 + 20).toInt = (τ.1 4).toInt + 20 := by rw [i_add] <;> rw [k20] <;> omega
  refine Tm_suc (fun k => by rw [x_feed]) ?_
  refine Tm_ite (fun c => ?_) (fun c => ?_)
  · rw [i_le, hs, kM] at c
    refine Tm_suc (fun k => by rw [x_feed]) ?_
    refine Tm_suc (fun k => by rw [x_feed]) ?_
    refine Tm_ob (s_good _ _) (fun r hr => ?_)
    subst hr
    refine Tm_ite (fun c1 => absurd c1 (by rw [upd_same, upd_same]; exact (by decide : ¬ (1 : Int32) = 0))) (fun c1 => ?_)
    refine Tm_suc (fun k => by rw [x_feed]) ?_
    rw [upd_same, upd_same]
    have h4 : (upd τ.1 2 0) 4 = τ.1 4 := upd_other (by decide)
    refine Tm_mono (feed_loop L (upd τ.1 2 0, τ.2.1, τ.2.2) (by show 0 ≤ ((upd τ.1 2 0) 4).toInt; rw [h4]; exact h0) (by show ((upd τ.1 2 0) 4).toInt + 20 ≤ _; rw [h4]; exact c) 20 0 _ rfl rfl (fun j a b => by rw [upd_other (by omega), upd_other (by omega)])) (fun r hr => ?_)
    subst hr
    rw [if_pos c]
    exact ⟨rfl, rfl⟩
  · rw [i_le, hs, kM] at c
    refine Tm_suc (fun k => by rw [x_feed]) ?_
    refine Tm_ob (s_good _ _) (fun r hr => ?_)
    subst hr
    refine Tm_ite (fun c1 => ?_) (fun c1 => absurd (by rw [upd_same, upd_same]; exact (rfl : (0 : Int32) = 0)) c1)
    refine Tm_some ?_
    rw [if_neg c, upd_same, upd_same]
end JnS1
section JnS2
/-! The tape of the class: feed, end. -/
theorem upd_upd {f : Nat → Int32} {k : Nat} {x y : Int32} : upd (upd f k x) k y = upd f k y := by
  funext j
  unfold upd
  by_cases h : j = k
  · rw [if_pos h, if_pos h]
  · rw [if_neg h, if_neg h, if_neg h]
theorem updG_updG {f : Nat → Nat → Int32} {k : Nat} {x y : Nat → Int32} : updG (updG f k x) k y = updG f k y := by
  funext j
  unfold updG
  by_cases h : j = k
  · rw [if_pos h, if_pos h]
  · rw [if_neg h, if_neg h, if_neg h]
theorem updN_updN {f : Nat → Nat} {k x y : Nat} : updN (updN f k x) k y = updN f k y := by
  funext j
  unfold updN
  by_cases h : j = k
  · rw [if_pos h, if_pos h]
  · rw [if_neg h, if_neg h, if_neg h]
theorem upd_self {f : Nat → Int32} {k : Nat} : upd f k (f k) = f := by
  funext j
  unfold upd
  by_cases h : j = k
  · rw [if_pos h, h]
  · rw [if_neg h]
theorem updG_self {f : Nat → Nat → Int32} {k : Nat} : updG f k (f k) = f := by
  funext j
  unfold updG
  by_cases h : j = k
  · rw [if_pos h, h]
  · rw [if_neg h]
theorem updN_self {f : Nat → Nat} {k : Nat} : updN f k (f k) = f := by
  funext j
  unfold updN
  by_cases h : j = k
  · rw [if_pos h, h]
  · rw [if_neg h]
theorem lI_same {L : LV} {i : Nat} {x : Int32} : (lI L i x).1 i = x := (upd_same : upd L.1 i x i = x)
theorem lI_other {L : LV} {i j : Nat} {x : Int32} (h : j ≠ i) : (lI L i x).1 j = L.1 j := (upd_other h : upd L.1 i x j = L.1 j)
/-- the state with another tape: length, bytes, room -/
def tC (σ : CS) (l : Int32) (row : Nat → Int32) (n : Nat) : CS := (upd σ.1 3701 l, σ.2.1, updG σ.2.2.1 38 row, σ.2.2.2.1, updN (sN σ) 38 n, σ.2.2.2.2.2)
theorem tC_self (σ : CS) : tC σ (σ.1 3701) (σ.2.2.1 38) (sN σ 38) = σ := by
  unfold tC
  rw [upd_self, updG_self, updN_self]
theorem tC_tC (σ : CS) {l l' : Int32} {r r' : Nat → Int32} {n n' : Nat} : tC (tC σ l r n) l' r' n' = tC σ l' r' n' := by
  show (upd (upd σ.1 3701 l) 3701 l', σ.2.1, updG (updG σ.2.2.1 38 r) 38 r', σ.2.2.2.1, updN (updN (sN σ) 38 n) 38 n', σ.2.2.2.2.2) = (upd σ.1 3701 l', σ.2.1, updG σ.2.2.1 38 r', σ.2.2.2.1, updN (sN σ) 38 n', σ.2.2.2.2.2)
  rw [upd_upd, updG_updG, updN_updN]
theorem tC_len {σ : CS} {l : Int32} {r : Nat → Int32} {n : Nat} : (tC σ l r n).1 3701 = l := (upd_same : upd σ.1 3701 l 3701 = l)
theorem tC_row {σ : CS} {l : Int32} {r : Nat → Int32} {n : Nat} : (tC σ l r n).2.2.1 38 = r := (updG_same : updG σ.2.2.1 38 r 38 = r)
theorem tC_n {σ : CS} {l : Int32} {r : Nat → Int32} {n : Nat} : sN (tC σ l r n) 38 = n := (if_pos rfl : updN (sN σ) 38 n 38 = n)
/-- what the rows of the tape may still cost: cells, slots -/
def tpC (n : Nat) : Nat := if n < 10242 then 2 else if n < 32770 then 1 else 0
def tpS (n : Nat) : Nat := if n < 10242 then 43012 else if n < 32770 then 32770 else 0
def tFit (row : Nat → Int32) (n : Nat) : Prop := ∀ i, i < n → fits .byte (.int (row i)) = true
/-- the bytes of a word, from the highest on, written behind the tape -/
def cByte (x : Int32) (s : Int32) : Int32 := vp_nar .byte ((x >>> (s &&& 31)).toInt8.toInt32)
theorem i_byte (y : Int8) : -128 ≤ y.toInt32.toInt ∧ y.toInt32.toInt ≤ 127 := by
  have h1 := Int8.le_toInt y
  have h2 := Int8.toInt_lt y
  rw [Int8.toInt_toInt32]
  omega
theorem fits_byte {v : Int32} (h1 : -128 ≤ v.toInt) (h2 : v.toInt ≤ 127) : fits .byte (.int v) = true := by
  show (decide ((-128 : Int32) ≤ v) && decide (v ≤ (127 : Int32))) = true
  rw [Bool.and_eq_true]
  exact ⟨decide_eq_true (i_le.mpr h1), decide_eq_true (i_le.mpr h2)⟩
theorem fits_byte' {v : Int32} (h : fits .byte (.int v) = true) : -128 ≤ v.toInt ∧ v.toInt ≤ 127 := by
  have h : (decide ((-128 : Int32) ≤ v) && decide (v ≤ (127 : Int32))) = true := h
  rw [Bool.and_eq_true] at h
  exact ⟨i_le.mp (of_decide_eq_true h.1), i_le.mp (of_decide_eq_true h.2)⟩
theorem cByte_fits (x s : Int32) : fits .byte (.int (cByte x s)) = true := fits_byte (i_byte _).1 (i_byte _).2
/-- widen: room for n bytes, the tape as it was -/
theorem s_lexWiden (L : LV) (σ : CS) (h0 : 0 ≤ (L.1 1).toInt) (h1 : (L.1 1).toInt ≤ 32770) (hn : sN σ 38 ≤ 32770) (hf : tFit (σ.2.2.1 38) (sN σ 38)) :
    Tm (fun k => f_X2_widen k 0 L σ) (fun r => r.1 = (0, 0) ∧ ∃ (row : Nat → Int32) (n : Nat), r.2.1 = tC σ (σ.1 3701) row n ∧ (∀ i, i < sN σ 38 → row i = σ.2.2.1 38 i) ∧ tFit row n ∧ sN σ 38 ≤ n ∧ n ≤ 32770 ∧ (L.1 1).toInt ≤ n ∧ r.2.2.1 + tpC n ≤ tpC (sN σ 38) ∧ r.2.2.2 + tpS n ≤ tpS (sN σ 38)) := by
  have k1 : (10242 : Int32).toInt = 10242 := rfl
  have k2 : (32770 : Int32).toInt = 32770 := rfl
  have same : sN σ 38 ≤ 32770 → (L.1 1).toInt ≤ sN σ 38 → (((0 : Nat), (0 : Int32)), σ, ((0 : Nat), (0 : Nat))).1 = (0, 0) ∧ ∃ (row : Nat → Int32) (n : Nat), (((0 : Nat), (0 : Int32)), σ, ((0 : Nat), (0 : Nat))).2.1 = tC σ (σ.1 3701) row n ∧ (∀ i, i < sN σ 38 → row i = σ.2.2.1 38 i) ∧ tFit row n ∧ sN σ 38 ≤ n ∧ n ≤ 32770 ∧ (L.1 1).toInt ≤ n ∧ 0 + tpC n ≤ tpC (sN σ 38) ∧ 0 + tpS n ≤ tpS (sN σ 38) :=
    fun a b => ⟨rfl, σ.2.2.1 38, sN σ 38, (tC_self σ).symm, fun _ _ => rfl, hf, Nat.le_refl _, a, b, by omega, by omega⟩
  -- the test and the copy
  have last : ∀ (M : LV) (full : Nat), full = 10242 ∨ full = 32770 → (M.1 100).toInt = full → M.1 101 = L.1 1 → (L.1 1).toInt ≤ full → Tm (fun k => f_X2_widen k 2 M σ) (fun r => r.1 = (0, 0) ∧ ∃ (row : Nat → Int32) (n : Nat), r.2.1 = tC σ (σ.1 3701) row n ∧ (∀ i, i < sN σ 38 → row i = σ.2.2.1 38 i) ∧ tFit row n ∧ sN σ 38 ≤ n ∧ n ≤ 32770 ∧ (L.1 1).toInt ≤ n ∧ r.2.2.1 + tpC n ≤ tpC (sN σ 38) ∧ r.2.2.2 + tpS n ≤ tpS (sN σ 38)) := by
    intro M full hfu h100 h101 hle
    have hcl : ((M.1 100).toNatClampNeg : Int) = full := by rw [i_clamp (by omega)]; exact h100
    have hcl : (M.1 100).toNatClampNeg = full := by omega
    refine Tm_suc (fun k => by rw [f_X2_widen]) ?_
    refine Tm_chk ⟨by rw [i_lt, i_c0]; omega, by omega, by omega⟩ ?_
    refine Tm_ite (fun c => ?_) (fun c => ?_)
    · refine Tm_chk hf ?_
      refine Tm_adR ?_
      refine Tm_suc (fun k => by rw [f_X2_widen]) ?_
      refine Tm_some ⟨rfl, (fun i => if i < sN σ 38 then σ.2.2.1 38 i else 0), full, ?_, fun i hi => if_pos hi, fun i hi => ?_, ?_, ?_, ?_, ?_, ?_⟩
      · rw [hcl]
        show (σ.1, σ.2.1, updG σ.2.2.1 38 (fun i => if i < sN σ 38 then σ.2.2.1 38 i else 0), σ.2.2.2.1, updN (sN σ) 38 full, σ.2.2.2.2.2) = _
        unfold tC
        rw [upd_self]
      · show fits .byte (.int (if i < sN σ 38 then σ.2.2.1 38 i else 0)) = true
        by_cases h : i < sN σ 38
        · rw [if_pos h]; exact hf i h
        · rw [if_neg h]; rfl
      · omega
      · omega
      · omega
      · show 1 + 0 + tpC full ≤ _
        unfold tpC
        have := c.2
        rcases hfu with rfl | rfl
        · rw [if_neg (by omega), if_pos (by omega), if_pos (by omega)]; omega
        · rw [if_neg (by omega), if_neg (by omega)]; (repeat' split) <;> omega
      · show (M.1 100).toNatClampNeg + 0 + tpS full ≤ _
        rw [hcl]
        unfold tpS
        have := c.2
        rcases hfu with rfl | rfl
        · rw [if_neg (by omega), if_pos (by omega), if_pos (by omega)]; omega
        · rw [if_neg (by omega), if_neg (by omega)]; (repeat' split) <;> omega
    · refine Tm_suc (fun k => by rw [f_X2_widen]) ?_
      refine Tm_some (same hn ?_)
      rw [h101, i_lt] at c
      have : (nI (sN σ 38)).toInt = sN σ 38 := i_ofNat (by omega)
      omega
  refine Tm_suc (fun k => by rw [f_X2_widen]) ?_
  refine Tm_ite (fun c => ?_) (fun c => ?_)
  · rw [i_lt, k1] at c
    refine Tm_suc (fun k => by rw [f_X2_widen]) ?_
    exact last _ 32770 (Or.inr rfl) (by rw [lI_other (by decide), lI_same]; rfl) (by rw [lI_same, lI_same]) (by omega)
  · rw [i_lt, k1] at c
    exact last _ 10242 (Or.inl rfl) (by rw [lI_other (by decide), lI_same]; rfl) (by rw [lI_same]) (by omega)
/-- append: four bytes, from the highest on -/
def cPut (row : Nat → Int32) (x : Int32) (l : Nat) : Nat → Nat → Int32
  | 0 => row
  | j + 1 => upd (cPut row x l j) (l + j) (cByte x (24 - 8 * nI j))
theorem cPut_fit {row : Nat → Int32} {x : Int32} {l n : Nat} (h : tFit row n) : ∀ j : Nat, tFit (cPut row x l j) n
  | 0 => h
  | j + 1 => fun i hi => by
    show fits .byte (.int (upd (cPut row x l j) (l + j) (cByte x (24 - 8 * nI j)) i)) = true
    by_cases e : i = l + j
    · rw [e, upd_same]; exact cByte_fits _ _
    · rw [upd_other e]; exact cPut_fit h j i hi
theorem append_loop (x : Int32) (σ : CS) (l : Int32) (row : Nat → Int32) (n : Nat) (h0 : 0 ≤ l.toInt) (h1 : l.toInt + 4 ≤ n) (hn : n ≤ 32770) : ∀ (m j : Nat) (L : LV), j + m = 4 → L.1 1 = x → L.1 2 = 24 - 8 * nI j → Tm (fun k => f_X2_append k 1 L (tC σ (l + nI j) (cPut row x l.toNatClampNeg j) n)) (fun r => r = ((0, 0), tC σ (l + 4) (cPut row x l.toNatClampNeg 4) n, (0, 0))) := by
  intro m
  induction m with
  | zero =>
    intro j L hj hx h2
    obtain rfl : j = 4 := by omega
    refine Tm_suc (fun k => by rw [f_X2_append]) ?_
    refine Tm_ite (fun c => ?_) (fun c => absurd (by rw [h2]; decide) c)
    refine Tm_suc (fun k => by rw [f_X2_append]) ?_
    exact Tm_some rfl
  | succ m ih =>
    intro j L hj hx h2
    have hj3 : j = 0 ∨ j = 1 ∨ j = 2 ∨ j = 3 := by omega
    have hji : (nI j).toInt = j := i_ofNat (by omega)
    have hlj : (l + nI j).toInt = l.toInt + j := by rw [i_add] <;> omega
    have hcl : (l + nI j).toNatClampNeg = l.toNatClampNeg + j := by
      have a := i_clamp (x := l + nI j) (by omega)
      have b := i_clamp h0
      omega
    refine Tm_suc (fun k => by rw [f_X2_append]) ?_
    refine Tm_ite (fun c => ?_) (fun c => ?_)
    · rw [h2] at c; rcases hj3 with rfl | rfl | rfl | rfl <;> exact absurd c (by decide)
    refine Tm_chk (by rw [tC_len, tC_n]; exact i_in (by omega) (by omega)) ?_
    have := ih (j + 1) (lI L 2 (L.1 2 - 8)) (by omega) (by rw [lI_other (by decide)]; exact hx) (by rw [lI_same, h2]; rcases hj3 with rfl | rfl | rfl | rfl <;> decide)
    have e : uI (uA (tC σ (l + nI j) (cPut row x l.toNatClampNeg j) n) 38 ((tC σ (l + nI j) (cPut row x l.toNatClampNeg j) n).1 3701).toNatClampNeg (vp_nar .byte ((L.1 1 >>> (L.1 2 &&& 31)).toInt8.toInt32))) 3701 ((uA (tC σ (l + nI j) (cPut row x l.toNatClampNeg j) n) 38 ((tC σ (l + nI j) (cPut row x l.toNatClampNeg j) n).1 3701).toNatClampNeg (vp_nar .byte ((L.1 1 >>> (L.1 2 &&& 31)).toInt8.toInt32))).1 3701 + 1) = tC σ (l + nI (j + 1)) (cPut row x l.toNatClampNeg (j + 1)) n := by
      rw [tC_len, hcl, hx, h2]
      show (upd (upd σ.1 3701 (l + nI j)) 3701 ((tC σ (l + nI j) (cPut row x l.toNatClampNeg j) n).1 3701 + 1), σ.2.1, updG (updG σ.2.2.1 38 (cPut row x l.toNatClampNeg j)) 38 (upd ((tC σ (l + nI j) (cPut row x l.toNatClampNeg j) n).2.2.1 38) (l.toNatClampNeg + j) (cByte x (24 - 8 * nI j))), σ.2.2.2.1, updN (sN σ) 38 n, σ.2.2.2.2.2) = (upd σ.1 3701 (l + nI (j + 1)), σ.2.1, updG σ.2.2.1 38 (upd (cPut row x l.toNatClampNeg j) (l.toNatClampNeg + j) (cByte x (24 - 8 * nI j))), σ.2.2.2.1, updN (sN σ) 38 n, σ.2.2.2.2.2)
      rw [upd_upd, updG_updG, tC_len, tC_row, nI_succ, Int32.add_assoc]
    rw [e]
    exact this
end JnS2
section JnS3
theorem cPut_old {row : Nat → Int32} {x : Int32} {l i : Nat} : ∀ j : Nat, (i < l ∨ l + j ≤ i) → cPut row x l j i = row i
  | 0, _ => rfl
  | j + 1, h => by
    show upd (cPut row x l j) (l + j) _ i = _
    rw [upd_other (by omega)]
    exact cPut_old j (by omega)
theorem cPut_new {row : Nat → Int32} {x : Int32} {l : Nat} : ∀ j q : Nat, q < j → cPut row x l j (l + q) = cByte x (24 - 8 * nI q)
  | 0, q, h => absurd h (by omega)
  | j + 1, q, h => by
    show upd (cPut row x l j) (l + j) _ (l + q) = _
    by_cases e : q = j
    · rw [e, upd_same]
    · rw [upd_other (by omega)]
      exact cPut_new j q (by omega)
/-- the tape is well: length, room, bytes -/
def tOK (σ : CS) : Prop := 0 ≤ (σ.1 3701).toInt ∧ (σ.1 3701).toInt ≤ sN σ 38 ∧ (σ.1 3701).toInt ≤ 32768 ∧ sN σ 38 ≤ 32770 ∧ tFit (σ.2.2.1 38) (sN σ 38)
/-- the tape grew by m bytes b -/
def tGrew (σ : CS) (m : Nat) (b : Nat → Int32) (r : RS) : Prop := ∃ (row : Nat → Int32) (n : Nat), r.2.1 = tC σ (σ.1 3701 + nI m) row n ∧ (∀ i : Nat, (i : Int) < (σ.1 3701).toInt → row i = σ.2.2.1 38 i) ∧ (∀ j, j < m → row ((σ.1 3701).toNatClampNeg + j) = b j) ∧ tFit row n ∧ sN σ 38 ≤ n ∧ n ≤ 32770 ∧ (σ.1 3701).toInt + m ≤ n ∧ r.2.2.1 + tpC n ≤ tpC (sN σ 38) ∧ r.2.2.2 + tpS n ≤ tpS (sN σ 38)
theorem s_append (L : LV) (σ : CS) (h0 : 0 ≤ (σ.1 3701).toInt) (h1 : (σ.1 3701).toInt + 4 ≤ 32770) (h2 : (σ.1 3701).toInt ≤ sN σ 38) (hn : sN σ 38 ≤ 32770) (hf : tFit (σ.2.2.1 38) (sN σ 38)) : Tm (fun k => f_X2_append k 0 L σ) (fun r => r.1 = (0, 0) ∧ tGrew σ 4 (fun j => cByte (L.1 1) (24 - 8 * nI j)) r) := by
  have k4 : (4 : Int32).toInt = 4 := rfl
  have hs : (σ.1 3701 + 4).toInt = (σ.1 3701).toInt + 4 := by rw [i_add] <;> omega
  refine Tm_suc (fun k => by rw [f_X2_append]) ?_
  refine Tm_ox (s_lexWiden _ σ (by rw [lI_same]; omega) (by rw [lI_same]; omega) hn hf) (fun r hr h => absurd (by rw [hr.1]) h) (fun r hr _ => ?_)
  obtain ⟨hr0, row, n, hst, hrow, hfit, hn1, hn2, hn3, hc, hsl⟩ := hr
  rw [lI_same, hs] at hn3
  have loop := append_loop (L.1 1) σ (σ.1 3701) row n h0 (by omega) hn2 4 0 (lI L 2 24) rfl (by rw [lI_other (by decide)]) (by rw [lI_same]; rfl)
  have e : tC σ (σ.1 3701 + nI 0) (cPut row (L.1 1) (σ.1 3701).toNatClampNeg 0) n = r.2.1 := by
    rw [hst, show σ.1 3701 + nI 0 = σ.1 3701 from Int32.add_zero _]; rfl
  rw [e] at loop
  refine Tm_mono loop (fun q hq => ?_)
  subst hq
  have hcl := i_clamp h0
  refine ⟨rfl, _, n, rfl, fun i hi => ?_, fun j hj => cPut_new 4 j hj, cPut_fit hfit 4, hn1, hn2, ?_, ?_, ?_⟩
  · rw [cPut_old 4 (by omega)]; exact hrow i (by omega)
  · show _ + ((4 : Nat) : Int) ≤ _; omega
  · exact hc
  · exact hsl
/-- two growths, one behind the other -/
theorem tGrew_tr {σ : CS} {m m' : Nat} {b b' : Nat → Int32} {r q : RS} (h0 : 0 ≤ (σ.1 3701).toInt) (hm : (σ.1 3701).toInt + m + m' ≤ 32770) (h1 : tGrew σ m b r) (h2 : tGrew r.2.1 m' b' q) : tGrew σ (m + m') (fun j => if j < m then b j else b' (j - m)) (q.1, q.2.1, (r.2.2.1 + q.2.2.1, r.2.2.2 + q.2.2.2)) := by
  obtain ⟨row, n, hst, hrow, hnew, hfit, a1, a2, a3, hc, hs⟩ := h1
  obtain ⟨row', n', hst', hrow', hnew', hfit', a1', a2', a3', hc', hs'⟩ := h2
  have hmi : (nI m).toInt = m := i_ofNat (by omega)
  have hl : (r.2.1.1 3701) = σ.1 3701 + nI m := by rw [hst]; exact tC_len
  have hli : (r.2.1.1 3701).toInt = (σ.1 3701).toInt + m := by rw [hl, i_add] <;> omega
  have hr : r.2.1.2.2.1 38 = row := by rw [hst]; exact tC_row
  have hnn : sN r.2.1 38 = n := by rw [hst]; exact tC_n
  have hcl := i_clamp h0
  have hcl' := i_clamp (x := r.2.1.1 3701) (by omega)
  rw [hnn] at a1' hc' hs'
  refine ⟨row', n', ?_, fun i hi => ?_, fun j hj => ?_, hfit', by omega, a2', ?_, ?_, ?_⟩
  · show q.2.1 = _
    rw [hst', hl, hst, tC_tC]
    show tC σ (σ.1 3701 + nI m + nI m') row' n' = tC σ (σ.1 3701 + nI (m + m')) row' n'
    rw [Int32.add_assoc, show nI m + nI m' = nI (m + m') from (Int32.ofNat_add m m').symm]
  · rw [hrow' i (by omega), hr]; exact hrow i hi
  · show _ = if j < m then b j else b' (j - m)
    by_cases c : j < m
    · rw [if_pos c, hrow' _ (by omega), hr]; exact hnew j c
    · rw [if_neg c, ← hnew' (j - m) (by omega)]
      congr 1
      omega
  · omega
  · show r.2.2.1 + q.2.2.1 + tpC n' ≤ _; omega
  · show r.2.2.2 + q.2.2.2 + tpS n' ≤ _; omega
end JnS3
section JnS4
/-- one append more behind m bytes -/
theorem grew_step {σ : CS} {m : Nat} {b : Nat → Int32} {r : RS} (hok : tOK σ) (hm : (σ.1 3701).toInt + m + 4 ≤ 32770) (h : tGrew σ m b r) (L : LV) : Tm (fun k => f_X2_append k 0 L r.2.1) (fun q => q.1 = (0, 0) ∧ tGrew σ (m + 4) (fun j => if j < m then b j else cByte (L.1 1) (24 - 8 * nI (j - m))) (q.1, q.2.1, (r.2.2.1 + q.2.2.1, r.2.2.2 + q.2.2.2))) := by
  obtain ⟨row, n, hst, hrow, hnew, hfit, a1, a2, a3, hc, hs⟩ := id h
  have hmi : (nI m).toInt = m := i_ofNat (by have := hok.1; omega)
  have hl : (r.2.1.1 3701) = σ.1 3701 + nI m := by rw [hst]; exact tC_len
  have h0 := hok.1
  have hli : (r.2.1.1 3701).toInt = (σ.1 3701).toInt + m := by rw [hl, i_add] <;> omega
  have hr : r.2.1.2.2.1 38 = row := by rw [hst]; exact tC_row
  have hnn : sN r.2.1 38 = n := by rw [hst]; exact tC_n
  refine Tm_mono (s_append L r.2.1 (by omega) (by omega) (by rw [hnn]; omega) (by rw [hnn]; omega) (by rw [hnn, hr]; exact hfit)) (fun q hq => ⟨hq.1, ?_⟩)
  exact tGrew_tr h0 (by show _ + ((4 : Nat) : Int) ≤ _; omega) h hq.2
theorem grew_zero {σ : CS} (hok : tOK σ) (v : Nat × Int32) : tGrew σ 0 (fun _ => 0) (v, σ, (0, 0)) := by
  refine ⟨σ.2.2.1 38, sN σ 38, ?_, fun _ _ => rfl, fun j hj => absurd hj (by omega), hok.2.2.2.2, Nat.le_refl _, hok.2.2.2.1, ?_, ?_, ?_⟩
  · show σ = _
    rw [show σ.1 3701 + nI 0 = σ.1 3701 from Int32.add_zero _, tC_self]
  · have := hok.2.1; show _ + ((0 : Nat) : Int) ≤ _; omega
  · show 0 + _ ≤ _; omega
  · show 0 + _ ≤ _; omega
/-- byte j of the five numbers that feed takes -/
def cFed (L : LV) (j : Nat) : Int32 := cByte (L.1 (1 + j / 4)) (24 - 8 * nI (j % 4))
theorem s_Cfeed (L : LV) (σ : CS) (hok : tOK σ) : Tm (fun k => f_X11_feed k 0 L σ) (fun r => if (σ.1 3701).toInt + 20 ≤ 32768 then r.1 = (0, σ.1 3701 + 20) ∧ tGrew σ 20 (cFed L) r else r = ((4, 0), σ, (1, 6))) := by
  have k20 : (20 : Int32).toInt = 20 := rfl
  have kM : (32768 : Int32).toInt = 32768 := rfl
  have h0 := hok.1
  have h1 := hok.2.2.1
  have hs : (σ.1 3701 + 20).toInt = (σ.1 3701).toInt + 20 := by rw [i_add] <;> rw [k20] <;> omega
  refine Tm_suc (fun k => by rw [f_X11_feed]) ?_
  refine Tm_ite (fun c => ?_) (fun c => ?_)
  · rw [i_le, hs, kM] at c
    refine Tm_suc (fun k => by rw [f_X11_feed]) ?_
    have fin : ∀ (q : RS) (r : RS) (x : Nat × Nat), r = (((0 : Nat), q.2.1.1 3701), q.2.1, x) → tGrew σ 20 (cFed L) (q.1, q.2.1, x) → (if (σ.1 3701).toInt + 20 ≤ 32768 then r.1 = (0, σ.1 3701 + 20) ∧ tGrew σ 20 (cFed L) r else r = ((4, 0), σ, (1, 6))) := by
      intro q r x hr hg
      subst hr
      rw [if_pos c]
      obtain ⟨row, n, hst, rest⟩ := hg
      refine ⟨?_, row, n, hst, rest⟩
      show ((0 : Nat), q.2.1.1 3701) = _
      rw [show q.2.1.1 3701 = σ.1 3701 + 20 from by rw [show q.2.1 = _ from hst]; exact tC_len]
    have stop : ∀ (r : RS), r.1 = ((0 : Nat), (0 : Int32)) → ¬ r.1.1 = 0 → False := fun r h h' => h' (by rw [h])
    have g0 := grew_zero hok (0, 0)
    refine Tm_ox (grew_step hok (by show _ + ((0 : Nat) : Int) + 4 ≤ _; omega) g0 (lI lZ 1 (L.1 1))) (fun r hr h => (stop r hr.1 h).elim) (fun r1 hr1 _ => ?_)
    have g1 := hr1.2
    refine Tm_ox (grew_step (r := (r1.1, r1.2.1, (0 + r1.2.2.1, 0 + r1.2.2.2))) hok (by show _ + ((4 : Nat) : Int) + 4 ≤ _; omega) g1 (lI lZ 1 (L.1 2))) (fun r hr h => (stop r hr.1 h).elim) (fun r2 hr2 _ => ?_)
    have g2 := hr2.2
    refine Tm_ox (grew_step (r := (r2.1, r2.2.1, (0 + r1.2.2.1 + r2.2.2.1, 0 + r1.2.2.2 + r2.2.2.2))) hok (by show _ + ((8 : Nat) : Int) + 4 ≤ _; omega) g2 (lI lZ 1 (L.1 3))) (fun r hr h => (stop r hr.1 h).elim) (fun r3 hr3 _ => ?_)
    have g3 := hr3.2
    refine Tm_ox (grew_step (r := (r3.1, r3.2.1, (0 + r1.2.2.1 + r2.2.2.1 + r3.2.2.1, 0 + r1.2.2.2 + r2.2.2.2 + r3.2.2.2))) hok (by show _ + ((12 : Nat) : Int) + 4 ≤ _; omega) g3 (lI lZ 1 (L.1 4))) (fun r hr h => (stop r hr.1 h).elim) (fun r4 hr4 _ => ?_)
    have g4 := hr4.2
    refine Tm_ox (grew_step (r := (r4.1, r4.2.1, (0 + r1.2.2.1 + r2.2.2.1 + r3.2.2.1 + r4.2.2.1, 0 + r1.2.2.2 + r2.2.2.2 + r3.2.2.2 + r4.2.2.2))) hok (by show _ + ((16 : Nat) : Int) + 4 ≤ _; omega) g4 (lI lZ 1 (L.1 5))) (fun r hr h => (stop r hr.1 h).elim) (fun r5 hr5 _ => ?_)
    have g5 := hr5.2
    refine Tm_some ?_
    refine fin r5 _ (r1.2.2.1 + (r2.2.2.1 + (r3.2.2.1 + (r4.2.2.1 + (r5.2.2.1 + 0)))), r1.2.2.2 + (r2.2.2.2 + (r3.2.2.2 + (r4.2.2.2 + (r5.2.2.2 + 0))))) rfl ?_
    have e1 : r1.2.2.1 + (r2.2.2.1 + (r3.2.2.1 + (r4.2.2.1 + (r5.2.2.1 + 0)))) = 0 + r1.2.2.1 + r2.2.2.1 + r3.2.2.1 + r4.2.2.1 + r5.2.2.1 := by omega
    have e2 : r1.2.2.2 + (r2.2.2.2 + (r3.2.2.2 + (r4.2.2.2 + (r5.2.2.2 + 0)))) = 0 + r1.2.2.2 + r2.2.2.2 + r3.2.2.2 + r4.2.2.2 + r5.2.2.2 := by omega
    rw [e1, e2]
    obtain ⟨row, n, hst, hrow, hnew, rest⟩ := g5
    refine ⟨row, n, hst, hrow, fun j hj => ?_, rest⟩
    rw [hnew j hj]
    simp only [lI_same]
    unfold cFed
    rcases (show j / 4 = 0 ∨ j / 4 = 1 ∨ j / 4 = 2 ∨ j / 4 = 3 ∨ j / 4 = 4 by omega) with e | e | e | e | e
    · rw [if_pos (by omega), if_pos (by omega), if_pos (by omega), if_pos (by omega), if_neg (by omega), e, show j - 0 = j % 4 by omega]
    · rw [if_pos (by omega), if_pos (by omega), if_pos (by omega), if_neg (by omega), e, show j - (0 + 4) = j % 4 by omega]
    · rw [if_pos (by omega), if_pos (by omega), if_neg (by omega), e, show j - (0 + 4 + 4) = j % 4 by omega]
    · rw [if_pos (by omega), if_neg (by omega), e, show j - (0 + 4 + 4 + 4) = j % 4 by omega]
    · rw [if_neg (by omega), e, show j - (0 + 4 + 4 + 4 + 4) = j % 4 by omega]
  · rw [i_le, hs, kM] at c
    refine Tm_some ?_
    rw [if_neg c]
end JnS4
section JnS5
/-! The reference reads tokens. -/
theorem n_int {p : Nat} (h : p < 2147483648) : (nI p).toInt = p := i_ofNat h
theorem n_cl {p : Nat} (h : p < 2147483648) : (nI p).toNatClampNeg = p := nI_clamp h
theorem n_add1 (p : Nat) : nI p + 1 = nI (p + 1) := (nI_succ p).symm
theorem n_le {p q : Nat} (hp : p < 2147483648) (hq : q < 2147483648) : nI p ≤ nI q ↔ p ≤ q := by rw [i_le, n_int hp, n_int hq]; omega
theorem n_lt {p q : Nat} (hp : p < 2147483648) (hq : q < 2147483648) : nI p < nI q ↔ p < q := by rw [i_lt, n_int hp, n_int hq]; omega
theorem n_eq {p q : Nat} (hp : p < 2147483648) (hq : q < 2147483648) : nI p = nI q ↔ p = q := by rw [i_eq, n_int hp, n_int hq]; omega
theorem n_in {p n : Nat} (hp : p < 2147483648) (h : p < n) : ¬ (nI p < 0 ∨ n ≤ (nI p).toNatClampNeg) := i_in (by rw [n_int hp]; omega) (by rw [n_int hp]; omega)
/-- byte p of a tape of n bytes, 0 behind it -/
def rB (T : Nat → Int32) (n p : Nat) : Int32 := if p < n then T p else 0
/-- the reference's tape has n bytes -/
def mN (σ : MS) (n : Nat) : Prop := σ.1 4 = nI n ∧ n ≤ 32768
theorem s_byteAt {L : Nat → Int32} {σ : MS} {n p : Nat} (hn : mN σ n) (hp : p < 2147483648) (h1 : L 1 = nI p) : Tm (fun k => x_byteAt k 0 L σ) (fun r => r = (rB (σ.2.2 3) n p, σ)) := by
  obtain ⟨h4, hn⟩ := hn
  refine Tm_suc (fun k => by rw [x_byteAt]) ?_
  rw [h4, h1]
  refine Tm_ite (fun c => ?_) (fun c => ?_)
  · rw [n_le (by omega) hp] at c
    refine Tm_suc (fun k => by rw [x_byteAt]) ?_
    refine Tm_suc (fun k => by rw [x_byteAt]) ?_
    refine Tm_some ?_
    rw [upd_same]; unfold rB; rw [if_neg (by omega)]
  · rw [n_le (by omega) hp] at c
    refine Tm_chk (n_in hp (by omega)) ?_
    refine Tm_suc (fun k => by rw [x_byteAt]) ?_
    refine Tm_some ?_
    rw [upd_same, n_cl hp]; unfold rB; rw [if_pos (by omega)]
abbrev isL (c : Int32) : Prop := (65 ≤ c ∧ c ≤ 90) ∨ (97 ≤ c ∧ c ≤ 122)
abbrev isD (c : Int32) : Prop := 48 ≤ c ∧ c ≤ 57
theorem s_isLetter (L : Nat → Int32) (σ : MS) : Tm (fun k => x_isLetter k 0 L σ) (fun r => r.2 = σ ∧ (¬ r.1 = 0 ↔ isL (L 0))) := by
  have yes : ∀ M : Nat → Int32, isL (L 0) → Tm (fun k => x_isLetter k 2 M σ) (fun r => r.2 = σ ∧ (¬ r.1 = 0 ↔ isL (L 0))) := fun M h => by
    refine Tm_suc (fun k => by rw [x_isLetter]) ?_
    refine Tm_suc (fun k => by rw [x_isLetter]) ?_
    refine Tm_chk (Or.inr upd_same) ?_
    refine Tm_some ⟨rfl, ?_⟩
    show ¬ upd M 100 1 100 = 0 ↔ _
    rw [upd_same]
    exact ⟨fun _ => h, fun _ => by decide⟩
  have no : ∀ M : Nat → Int32, ¬ isL (L 0) → Tm (fun k => x_isLetter k 3 M σ) (fun r => r.2 = σ ∧ (¬ r.1 = 0 ↔ isL (L 0))) := fun M h => by
    refine Tm_suc (fun k => by rw [x_isLetter]) ?_
    refine Tm_suc (fun k => by rw [x_isLetter]) ?_
    refine Tm_chk (Or.inl upd_same) ?_
    refine Tm_some ⟨rfl, ?_⟩
    show ¬ upd M 100 0 100 = 0 ↔ _
    rw [upd_same]
    exact ⟨fun q => absurd rfl q, fun q => absurd q h⟩
  have k65 : (65 : Int32).toInt = 65 := rfl
  have k90 : (90 : Int32).toInt = 90 := rfl
  have k97 : (97 : Int32).toInt = 97 := rfl
  have k122 : (122 : Int32).toInt = 122 := rfl
  have iff : isL (L 0) ↔ ((65 ≤ (L 0).toInt ∧ (L 0).toInt ≤ 90) ∨ (97 ≤ (L 0).toInt ∧ (L 0).toInt ≤ 122)) := by unfold isL; rw [i_le, i_le, i_le, i_le, k65, k90, k97, k122]
  have second : ((L 0).toInt < 65 ∨ 90 < (L 0).toInt) → Tm (fun k => x_isLetter k 1 L σ) (fun r => r.2 = σ ∧ (¬ r.1 = 0 ↔ isL (L 0))) := fun h => by
    refine Tm_suc (fun k => by rw [x_isLetter]) ?_
    refine Tm_ite (fun c => ?_) (fun c => ?_)
    · rw [i_lt, k97] at c; exact no L (by rw [iff]; omega)
    · rw [i_lt, k97] at c
      refine Tm_ite (fun c2 => ?_) (fun c2 => ?_)
      · rw [i_lt, k122] at c2; exact no L (by rw [iff]; omega)
      · rw [i_lt, k122] at c2; exact yes L (by rw [iff]; omega)
  refine Tm_suc (fun k => by rw [x_isLetter]) ?_
  refine Tm_ite (fun c => ?_) (fun c => ?_)
  · rw [i_lt, k65] at c; exact second (Or.inl c)
  · rw [i_lt, k65] at c
    refine Tm_ite (fun c2 => ?_) (fun c2 => ?_)
    · rw [i_le, k90] at c2; exact yes L (by rw [iff]; omega)
    · rw [i_le, k90] at c2; exact second (Or.inr (by omega))
theorem s_isDigit (L : Nat → Int32) (σ : MS) : Tm (fun k => x_isDigit k 0 L σ) (fun r => r.2 = σ ∧ (¬ r.1 = 0 ↔ isD (L 0))) := by
  have k48 : (48 : Int32).toInt = 48 := rfl
  have k57 : (57 : Int32).toInt = 57 := rfl
  have iff : isD (L 0) ↔ (48 ≤ (L 0).toInt ∧ (L 0).toInt ≤ 57) := by unfold isD; rw [i_le, i_le, k48, k57]
  have no : ¬ isD (L 0) → Tm (fun k => x_isDigit k 1 L σ) (fun r => r.2 = σ ∧ (¬ r.1 = 0 ↔ isD (L 0))) := fun h => by
    refine Tm_suc (fun k => by rw [x_isDigit]) ?_
    refine Tm_suc (fun k => by rw [x_isDigit]) ?_
    refine Tm_chk (Or.inl upd_same) ?_
    refine Tm_some ⟨rfl, ?_⟩
    show ¬ upd L 100 0 100 = 0 ↔ _
    rw [upd_same]
    exact ⟨fun q => absurd rfl q, fun q => absurd q h⟩
  refine Tm_suc (fun k => by rw [x_isDigit]) ?_
  refine Tm_ite (fun c => ?_) (fun c => ?_)
  · rw [i_lt, k48] at c; exact no (by rw [iff]; omega)
  · rw [i_lt, k48] at c
    refine Tm_ite (fun c2 => ?_) (fun c2 => ?_)
    · rw [i_lt, k57] at c2; exact no (by rw [iff]; omega)
    · rw [i_lt, k57] at c2
      refine Tm_suc (fun k => by rw [x_isDigit]) ?_
      refine Tm_chk (Or.inr upd_same) ?_
      refine Tm_some ⟨rfl, ?_⟩
      show ¬ upd L 100 1 100 = 0 ↔ _
      rw [upd_same]
      exact ⟨fun _ => by rw [iff]; omega, fun _ => by decide⟩
/-- a note goes on as far as this -/
def noteE (T : Nat → Int32) (n : Nat) : Nat → Nat → Nat
  | 0, p => p
  | f + 1, p => if p < n ∧ ¬ T p = 10 then noteE T n f (p + 1) else p
abbrev isB (c : Int32) : Prop := c = 9 ∨ c = 10 ∨ c = 13 ∨ c = 32
abbrev noteB (T : Nat → Int32) (n p : Nat) : Prop := rB T n p = 45 ∧ rB T n (p + 1) = 45
theorem noteE_ge (T : Nat → Int32) (n : Nat) : ∀ f p : Nat, p ≤ noteE T n f p
  | 0, p => Nat.le_refl _
  | f + 1, p => by
    show p ≤ if p < n ∧ ¬ T p = 10 then noteE T n f (p + 1) else p
    by_cases c : p < n ∧ ¬ T p = 10
    · rw [if_pos c]; have := noteE_ge T n f (p + 1); omega
    · rw [if_neg c]; exact Nat.le_refl _
theorem noteE_le (T : Nat → Int32) (n : Nat) : ∀ f p : Nat, p ≤ n → noteE T n f p ≤ n
  | 0, p, h => h
  | f + 1, p, h => by
    show (if p < n ∧ ¬ T p = 10 then noteE T n f (p + 1) else p) ≤ n
    by_cases c : p < n ∧ ¬ T p = 10
    · rw [if_pos c]; exact noteE_le T n f (p + 1) (by omega)
    · rw [if_neg c]; exact h
/-- the state with the place p -/
def mAt (σ : MS) (p : Nat) : MS := (upd σ.1 5 (nI p), σ.2.1, σ.2.2)
theorem mAt_at {σ : MS} {p : Nat} : (mAt σ p).1 5 = nI p := (upd_same : upd σ.1 5 (nI p) 5 = nI p)
theorem mAt_o {σ : MS} {p j : Nat} (h : j ≠ 5) : (mAt σ p).1 j = σ.1 j := (upd_other h : upd σ.1 5 (nI p) j = σ.1 j)
theorem mAt_mN {σ : MS} {p n : Nat} (h : mN σ n) : mN (mAt σ p) n := ⟨by rw [mAt_o (by decide)]; exact h.1, h.2⟩
theorem mAt_mAt {σ : MS} {p q : Nat} : mAt (mAt σ p) q = mAt σ q := by
  show (upd (upd σ.1 5 (nI p)) 5 (nI q), σ.2.1, σ.2.2) = _
  rw [upd_upd]; rfl
theorem mAt_up {σ : MS} {p : Nat} : (upd (mAt σ p).1 5 ((mAt σ p).1 5 + 1), (mAt σ p).2.1, (mAt σ p).2.2) = mAt σ (p + 1) := by
  rw [mAt_at, n_add1]
  show (upd (upd σ.1 5 (nI p)) 5 (nI (p + 1)), σ.2.1, σ.2.2) = _
  rw [upd_upd]; rfl
theorem mAt_self {σ : MS} {p : Nat} (h : σ.1 5 = nI p) : mAt σ p = σ := by
  show (upd σ.1 5 (nI p), σ.2.1, σ.2.2) = _
  rw [← h, upd_self]
theorem note_loop {σ : MS} {n : Nat} (hn : mN σ n) (L : Nat → Int32) (Q : Int32 × MS → Prop) : ∀ (f p : Nat), n - p ≤ f → p ≤ n → Tm (fun k => x_skip k 6 L (mAt σ (noteE (σ.2.2 3) n f p))) Q → Tm (fun k => x_skip k 4 L (mAt σ p)) Q := by
  intro f
  induction f with
  | zero =>
    intro p hf hp t
    have h4 : (mAt σ p).1 4 = nI n := (mAt_mN hn).1
    have := hn.2
    refine Tm_suc (fun k => by rw [x_skip]) ?_
    rw [h4, mAt_at]
    refine Tm_ite (fun c => t) (fun c => ?_)
    rw [n_le (by omega) (by omega)] at c; omega
  | succ f ih =>
    intro p hf hp t
    have h4 : (mAt σ p).1 4 = nI n := (mAt_mN hn).1
    have := hn.2
    have e : noteE (σ.2.2 3) n (f + 1) p = if p < n ∧ ¬ σ.2.2 3 p = 10 then noteE (σ.2.2 3) n f (p + 1) else p := rfl
    rw [e] at t
    refine Tm_suc (fun k => by rw [x_skip]) ?_
    rw [h4, mAt_at]
    refine Tm_ite (fun c => ?_) (fun c => ?_)
    · rw [n_le (by omega) (by omega)] at c
      rw [if_neg (by omega)] at t; exact t
    · rw [n_le (by omega) (by omega)] at c
      refine Tm_chk (n_in (by omega) (by omega)) ?_
      rw [n_cl (by omega)]
      refine Tm_ite (fun c2 => ?_) (fun c2 => ?_)
      · rw [if_neg (fun h => h.2 c2)] at t; exact t
      · rw [if_pos ⟨by omega, c2⟩] at t
        rw [n_add1]
        have e2 : (upd (mAt σ p).1 5 (nI (p + 1)), (mAt σ p).2.1, (mAt σ p).2.2) = mAt σ (p + 1) := by
          show (upd (upd σ.1 5 (nI p)) 5 (nI (p + 1)), σ.2.1, σ.2.2) = _
          rw [upd_upd]; rfl
        rw [e2]
        exact ih (p + 1) (by omega) (by omega) t
end JnS5
section JnS6
/-- behind blanks and notes -/
def skE (T : Nat → Int32) (n : Nat) : Nat → Nat → Nat
  | 0, p => p
  | f + 1, p => if p < n ∧ isB (T p) then skE T n f (p + 1) else if noteB T n p then skE T n f (noteE T n n p) else p
theorem noteB_lt {T : Nat → Int32} {n p : Nat} (h : noteB T n p) : p + 1 < n ∧ T p = 45 ∧ T (p + 1) = 45 := by
  obtain ⟨h1, h2⟩ := h
  unfold rB at h1 h2
  by_cases c : p + 1 < n
  · rw [if_pos c] at h2; rw [if_pos (by omega)] at h1; exact ⟨c, h1, h2⟩
  · rw [if_neg c] at h2; exact absurd h2 (by decide)
theorem noteE_gt {T : Nat → Int32} {n p : Nat} (h : noteB T n p) : p < noteE T n n p := by
  obtain ⟨h1, h2, h3⟩ := noteB_lt h
  obtain ⟨m, rfl⟩ : ∃ m, n = m + 1 := ⟨n - 1, by omega⟩
  show p < if p < m + 1 ∧ ¬ T p = 10 then noteE T (m + 1) m (p + 1) else p
  rw [if_pos ⟨by omega, by rw [h2]; decide⟩]
  have := noteE_ge T (m + 1) m (p + 1)
  omega
theorem skE_le (T : Nat → Int32) (n : Nat) : ∀ f p : Nat, p ≤ n → skE T n f p ≤ n
  | 0, p, h => h
  | f + 1, p, h => by
    show (if p < n ∧ isB (T p) then skE T n f (p + 1) else if noteB T n p then skE T n f (noteE T n n p) else p) ≤ n
    by_cases c : p < n ∧ isB (T p)
    · rw [if_pos c]; exact skE_le T n f (p + 1) (by omega)
    · rw [if_neg c]
      by_cases d : noteB T n p
      · rw [if_pos d]; exact skE_le T n f _ (noteE_le T n n p h)
      · rw [if_neg d]; exact h
theorem skE_ge (T : Nat → Int32) (n : Nat) : ∀ f p : Nat, p ≤ skE T n f p
  | 0, p => Nat.le_refl _
  | f + 1, p => by
    show p ≤ (if p < n ∧ isB (T p) then skE T n f (p + 1) else if noteB T n p then skE T n f (noteE T n n p) else p)
    by_cases c : p < n ∧ isB (T p)
    · rw [if_pos c]; have := skE_ge T n f (p + 1); omega
    · rw [if_neg c]
      by_cases d : noteB T n p
      · rw [if_pos d]; have := skE_ge T n f (noteE T n n p); have := noteE_ge T n n p; omega
      · rw [if_neg d]; exact Nat.le_refl _
theorem skip_loop {σ : MS} {n : Nat} (hn : mN σ n) : ∀ (f p : Nat) (L : Nat → Int32), n - p < f → p ≤ n → ¬ L 1 = 0 → Tm (fun k => x_skip k 1 L (mAt σ p)) (fun r => r = (0, mAt σ (skE (σ.2.2 3) n f p))) := by
  intro f
  induction f with
  | zero => intro p L h; omega
  | succ f ih =>
    intro p L hf hp h1
    have hN := hn.2
    have h4 : (mAt σ p).1 4 = nI n := (mAt_mN hn).1
    have e : skE (σ.2.2 3) n (f + 1) p = (if p < n ∧ isB (σ.2.2 3 p) then skE (σ.2.2 3) n f (p + 1) else if noteB (σ.2.2 3) n p then skE (σ.2.2 3) n f (noteE (σ.2.2 3) n n p) else p) := rfl
    rw [e]
    refine Tm_suc (fun k => by rw [x_skip]) ?_
    refine Tm_ite (fun c => absurd c h1) (fun _ => ?_)
    refine Tm_ob (s_byteAt (mAt_mN hn) (p := p) (by omega) (by rw [upd_same, mAt_at])) (fun r hr => ?_)
    subst hr
    -- not a blank: a note, or the end
    have three : ∀ M : Nat → Int32, M 2 = rB (σ.2.2 3) n p → ¬ M 1 = 0 → ¬ (p < n ∧ isB (σ.2.2 3 p)) → Tm (fun k => x_skip k 3 M (mAt σ p)) (fun r => r = (0, mAt σ (if p < n ∧ isB (σ.2.2 3 p) then skE (σ.2.2 3) n f (p + 1) else if noteB (σ.2.2 3) n p then skE (σ.2.2 3) n f (noteE (σ.2.2 3) n n p) else p))) := by
      intro M h2 hM hb
      rw [if_neg hb]
      have five : ¬ noteB (σ.2.2 3) n p → Tm (fun k => x_skip k 5 M (mAt σ p)) (fun r => r = (0, mAt σ (if noteB (σ.2.2 3) n p then skE (σ.2.2 3) n f (noteE (σ.2.2 3) n n p) else p))) := fun hno => by
        rw [if_neg hno]
        refine Tm_suc (fun k => by rw [x_skip]) ?_
        refine Tm_suc (fun k => by rw [x_skip]) ?_
        refine Tm_suc (fun k => by rw [x_skip]) ?_
        refine Tm_ite (fun _ => ?_) (fun c => absurd upd_same c)
        refine Tm_suc (fun k => by rw [x_skip]) ?_
        exact Tm_some rfl
      refine Tm_suc (fun k => by rw [x_skip]) ?_
      rw [h2]
      refine Tm_ite (fun c => ?_) (fun c => five (fun h => c h.1))
      rw [mAt_at, n_add1]
      refine Tm_ob (s_byteAt (mAt_mN hn) (p := p + 1) (by omega) upd_same) (fun r hr => ?_)
      subst hr
      refine Tm_ite (fun c2 => ?_) (fun c2 => five (fun h => c2 h.2))
      have hy : noteB (σ.2.2 3) n p := ⟨c, c2⟩
      rw [if_pos hy]
      have hgt := noteE_gt hy
      have hle := noteE_le (σ.2.2 3) n n p hp
      refine note_loop hn M _ n p (by omega) hp ?_
      refine Tm_suc (fun k => by rw [x_skip]) ?_
      exact ih _ M (by omega) hle hM
    have two : ∀ M : Nat → Int32, ¬ M 1 = 0 → (p < n ∧ isB (σ.2.2 3 p)) → Tm (fun k => x_skip k 2 M (mAt σ p)) (fun r => r = (0, mAt σ (if p < n ∧ isB (σ.2.2 3 p) then skE (σ.2.2 3) n f (p + 1) else if noteB (σ.2.2 3) n p then skE (σ.2.2 3) n f (noteE (σ.2.2 3) n n p) else p))) := by
      intro M hM hb
      rw [if_pos hb]
      refine Tm_suc (fun k => by rw [x_skip]) ?_
      refine Tm_suc (fun k => by rw [x_skip]) ?_
      rw [mAt_up]
      exact ih (p + 1) M (by omega) (by omega) hM
    have hM : ¬ upd L 2 (rB (σ.2.2 3) n p) 1 = 0 := by rw [upd_other (by decide)]; exact h1
    show Tm (fun k => if (mAt σ p).1 4 ≤ (mAt σ p).1 5 then _ else _) _
    rw [h4, mAt_at]
    refine Tm_ite (fun c => ?_) (fun c => ?_)
    · rw [n_le (by omega) (by omega)] at c
      exact three _ upd_same hM (by omega)
    · rw [n_le (by omega) (by omega)] at c
      have er : rB (σ.2.2 3) n p = σ.2.2 3 p := if_pos (by omega)
      refine Tm_ite (fun d => two _ hM ⟨by omega, Or.inl (er ▸ d)⟩) (fun d1 => ?_)
      refine Tm_ite (fun d => two _ hM ⟨by omega, Or.inr (Or.inl (er ▸ d))⟩) (fun d2 => ?_)
      refine Tm_ite (fun d => two _ hM ⟨by omega, Or.inr (Or.inr (Or.inl (er ▸ d)))⟩) (fun d3 => ?_)
      refine Tm_ite (fun d => two _ hM ⟨by omega, Or.inr (Or.inr (Or.inr (er ▸ d)))⟩) (fun d4 => ?_)
      refine three _ upd_same hM (fun h => ?_)
      have d1 : ¬ rB (σ.2.2 3) n p = 9 := d1
      have d2 : ¬ rB (σ.2.2 3) n p = 10 := d2
      have d3 : ¬ rB (σ.2.2 3) n p = 13 := d3
      have d4 : ¬ rB (σ.2.2 3) n p = 32 := d4
      rw [er] at d1 d2 d3 d4
      rcases h.2 with h | h | h | h
      · exact d1 h
      · exact d2 h
      · exact d3 h
      · exact d4 h
/-- behind blanks and notes from p on -/
def sk (T : Nat → Int32) (n p : Nat) : Nat := skE T n (n + 1) p
theorem s_skip {σ : MS} {n p : Nat} (hn : mN σ n) (h5 : σ.1 5 = nI p) (hp : p ≤ n) (L : Nat → Int32) : Tm (fun k => x_skip k 0 L σ) (fun r => r = (0, mAt σ (sk (σ.2.2 3) n p))) := by
  refine Tm_suc (fun k => by rw [x_skip]) ?_
  have := skip_loop hn (n + 1) p (upd L 1 1) (by omega) hp (by rw [upd_same]; decide)
  rw [mAt_self h5] at this
  exact this
end JnS6
section JnS7
/-! The words. -/
def wdL : List (List Int32) := [[118, 97, 114], [112, 114, 111, 99], [102, 117, 110, 99], [114, 100], [119, 114], [114, 119], [101, 110, 100], [105, 102], [116, 104, 101, 110], [101, 108, 115, 101, 105, 102], [101, 108, 115, 101], [119, 104, 105, 108, 101], [100, 111], [102, 111, 114], [105, 110], [110, 111, 116, 105, 110], [115, 117, 98, 115, 101, 116], [113, 117, 105, 116], [99, 111, 110, 116, 105, 110, 117, 101], [114, 101, 116, 117, 114, 110], [112, 114, 105, 110, 116], [97, 115, 115, 101, 114, 116], [115, 116, 111, 112], [115, 117, 99, 99, 101, 101, 100], [102, 97, 105, 108], [102, 114, 111, 109], [102, 114, 111, 109, 98], [102, 114, 111, 109, 101], [111, 109], [116, 114, 117, 101], [102, 97, 108, 115, 101], [111, 107], [97, 110, 100], [111, 114], [110, 111, 116], [100, 105, 118], [109, 111, 100], [101, 120, 105, 115, 116, 115], [102, 111, 114, 97, 108, 108], [97, 98, 115], [97, 114, 98], [100, 111, 109, 97, 105, 110], [114, 97, 110, 103, 101], [112, 111, 119], [116, 121, 112, 101], [115, 116, 114], [99, 104, 97, 114], [99, 111, 100, 101], [109, 105, 110], [109, 97, 120], [114, 101, 118], [110, 101, 119, 97, 116], [114, 97, 110, 100, 111, 109]]
def wdS : List Nat := [0, 4, 9, 14, 17, 20, 23, 27, 30, 35, 42, 47, 53, 56, 60, 63, 69, 76, 81, 90, 97, 103, 110, 115, 123, 128, 133, 139, 145, 148, 153, 159, 162, 166, 169, 173, 177, 181, 188, 195, 199, 203, 210, 216, 220, 225, 229, 234, 239, 243, 247, 251, 257, 264]
set_option maxRecDepth 20000 in
theorem wd_next : ∀ w, w < 53 → wdS.getD (w + 1) 0 = wdS.getD w 0 + (wdL.getD w []).length + 1 := by decide +kernel
set_option maxRecDepth 20000 in
theorem wd_lt : ∀ w, w < 53 → wdS.getD w 0 + (wdL.getD w []).length < 264 := by decide +kernel
set_option maxRecDepth 20000 in
theorem wd_at : ∀ w, w < 53 → ∀ i, i < (wdL.getD w []).length → mWords.getD (wdS.getD w 0 + i) 0 = (wdL.getD w []).getD i 0 ∧ ¬ mWords.getD (wdS.getD w 0 + i) 0 = 32 := by decide +kernel
set_option maxRecDepth 20000 in
theorem wd_end : ∀ w, w < 53 → mWords.getD (wdS.getD w 0 + (wdL.getD w []).length) 0 = 32 := by decide +kernel
/-- the bytes from a to before b -/
def seg (T : Nat → Int32) (a b : Nat) : List Int32 := (List.range (b - a)).map (fun i => T (a + i))
theorem seg_len (T : Nat → Int32) (a b : Nat) : (seg T a b).length = b - a := by unfold seg; rw [List.length_map, List.length_range]
theorem seg_at {T : Nat → Int32} {a b i : Nat} (h : i < b - a) : (seg T a b).getD i 0 = T (a + i) := by
  unfold seg
  rw [List.getD_eq_getElem?_getD, List.getElem?_map, List.getElem?_range h]
  rfl
theorem seg_eq {T : Nat → Int32} {a b : Nat} {l : List Int32} (h1 : l.length = b - a) (h2 : ∀ i, i < b - a → l.getD i 0 = T (a + i)) : l = seg T a b := by
  apply List.ext_getElem
  · rw [h1, seg_len]
  · intro i hi hj
    have e := h2 i (by omega)
    rw [List.getD_eq_getElem?_getD, List.getElem?_eq_getElem hi] at e
    have e2 := seg_at (T := T) (a := a) (b := b) (i := i) (by omega)
    rw [List.getD_eq_getElem?_getD, List.getElem?_eq_getElem hj] at e2
    exact e.trans e2.symm
/-- which word it is, from the w-th on: -1 for none -/
def wordF (s : List Int32) : Nat → Nat → Int32
  | 0, _ => -1
  | f + 1, w => if wdL.getD w [] = s then nI w else wordF s f (w + 1)
def wordI (s : List Int32) : Int32 := wordF s 53 0
section WORDAT
variable {σ : MS} {a b : Nat}
theorem wordAt_cmp (hW : σ.2.2 1 = mT mWords 264) (hab : a ≤ b) (hb : b ≤ 32768) (hT : ∀ i, a ≤ i → i < b → ¬ σ.2.2 3 i = 32) {w : Nat} (hw : w < 53) (Q : Int32 × MS → Prop) (L : Nat → Int32) (h2 : L 2 = nI b) (h3 : L 3 = nI w) (h4 : L 4 = nI (wdS.getD w 0)) :
    (∀ M : Nat → Int32, (∀ j, j ≠ 5 → j ≠ 6 → M j = L j) → wdL.getD w [] = seg (σ.2.2 3) a b → Q (nI w, σ)) → (∀ M : Nat → Int32, (∀ j, j ≠ 5 → j ≠ 6 → M j = L j) → ¬ wdL.getD w [] = seg (σ.2.2 3) a b → Tm (fun k => x_wordAt k 4 M σ) Q) →
    ∀ (m i : Nat) (M : Nat → Int32), m + i = b - a → i ≤ (wdL.getD w []).length → (∀ j, j < i → (wdL.getD w []).getD j 0 = σ.2.2 3 (a + j)) → (∀ j, j ≠ 5 → j ≠ 6 → M j = L j) → M 5 = nI (a + i) → M 6 = nI (wdS.getD w 0 + i) → Tm (fun k => x_wordAt k 2 M σ) Q := by
  intro yes no m
  have hlt := wd_lt w hw
  have val : ∀ i, i ≤ (wdL.getD w []).length → σ.2.2 1 (wdS.getD w 0 + i) = mWords.getD (wdS.getD w 0 + i) 0 := fun i hi => by
    rw [hW]; exact if_pos (by omega)
  -- behind the comparing
  have three : ∀ (i : Nat) (M : Nat → Int32), i ≤ b - a → i ≤ (wdL.getD w []).length → (∀ j, j < i → (wdL.getD w []).getD j 0 = σ.2.2 3 (a + j)) → (i = b - a ∨ ¬ σ.2.2 1 (wdS.getD w 0 + i) = σ.2.2 3 (a + i)) → (∀ j, j ≠ 5 → j ≠ 6 → M j = L j) → M 5 = nI (a + i) → M 6 = nI (wdS.getD w 0 + i) → Tm (fun k => x_wordAt k 3 M σ) Q := by
    intro i M hi hil heq hstop hM h5 h6
    refine Tm_suc (fun k => by rw [x_wordAt]) ?_
    rw [h5, show M 2 = nI b from by rw [hM 2 (by decide) (by decide)]; exact h2]
    refine Tm_ite (fun c => ?_) (fun c => ?_)
    · rw [n_eq (by omega) (by omega)] at c
      rw [h6]
      refine Tm_chk (n_in (by omega) (by omega)) ?_
      rw [n_cl (by omega), val i hil]
      refine Tm_ite (fun c2 => ?_) (fun c2 => ?_)
      · have hl : (wdL.getD w []).length = i := by
          by_cases h : i < (wdL.getD w []).length
          · exact absurd c2 (wd_at w hw i h).2
          · omega
        rw [show M 3 = nI w from by rw [hM 3 (by decide) (by decide)]; exact h3]
        exact Tm_some (yes M hM (seg_eq (by omega) (fun j hj => heq j (by omega))))
      · refine no M hM (fun e => c2 ?_)
        have := congrArg List.length e
        rw [seg_len] at this
        rw [show i = (wdL.getD w []).length by omega]
        exact wd_end w hw
    · rw [n_eq (by omega) (by omega)] at c
      refine no M hM (fun e => ?_)
      rcases hstop with h | h
      · omega
      · have := congrArg List.length e
        rw [seg_len] at this
        apply h
        rw [val i hil, (wd_at w hw i (by omega)).1, e]
        exact seg_at (by omega)
  induction m with
  | zero =>
    intro i M hm hil heq hM h5 h6
    refine Tm_suc (fun k => by rw [x_wordAt]) ?_
    rw [h5, show M 2 = nI b from by rw [hM 2 (by decide) (by decide)]; exact h2]
    refine Tm_ite (fun c => three i M (by omega) hil heq (Or.inl (by omega)) hM h5 h6) (fun c => ?_)
    rw [n_le (by omega) (by omega)] at c; omega
  | succ m ih =>
    intro i M hm hil heq hM h5 h6
    refine Tm_suc (fun k => by rw [x_wordAt]) ?_
    rw [h5, show M 2 = nI b from by rw [hM 2 (by decide) (by decide)]; exact h2]
    refine Tm_ite (fun c => ?_) (fun c => ?_)
    · rw [n_le (by omega) (by omega)] at c; omega
    rw [h6]
    refine Tm_chk (n_in (by omega) (by omega)) ?_
    refine Tm_chk (n_in (by omega) (by omega)) ?_
    rw [n_cl (by omega), n_cl (by omega)]
    refine Tm_ite (fun c2 => ?_) (fun c2 => three i M (by omega) hil heq (Or.inr c2) hM h5 h6)
    rw [n_add1, n_add1]
    have hil2 : i < (wdL.getD w []).length := by
      by_cases h : i < (wdL.getD w []).length
      · exact h
      · exfalso
        obtain rfl : i = (wdL.getD w []).length := by omega
        rw [val _ (Nat.le_refl _), wd_end w hw] at c2
        exact hT _ (by omega) (by omega) c2.symm
    refine ih (i + 1) _ (by omega) hil2 (fun j hj => ?_) (fun j a1 a2 => ?_) ?_ ?_
    · by_cases e : j = i
      · rw [e, ← (wd_at w hw i hil2).1, ← val i hil]; exact c2
      · exact heq j (by omega)
    · rw [upd_other a2, upd_other a1]; exact hM j a1 a2
    · rw [upd_other (by decide), upd_same]; rfl
    · rw [upd_same]; rfl
/-- on to the next word -/
theorem wordAt_next (hW : σ.2.2 1 = mT mWords 264) {w : Nat} (hw : w < 53) (Q : Int32 × MS → Prop) (L : Nat → Int32) (h3 : L 3 = nI w) : (∀ M : Nat → Int32, (∀ j, j ≠ 3 → j ≠ 4 → M j = L j) → M 3 = nI (w + 1) → M 4 = nI (wdS.getD (w + 1) 0) → Tm (fun k => x_wordAt k 1 M σ) Q) → ∀ (m i : Nat) (M : Nat → Int32), m + i = (wdL.getD w []).length → (∀ j, j ≠ 4 → M j = L j) → M 4 = nI (wdS.getD w 0 + i) → Tm (fun k => x_wordAt k 4 M σ) Q := by
  intro on m
  have hlt := wd_lt w hw
  have val : ∀ i, i ≤ (wdL.getD w []).length → σ.2.2 1 (wdS.getD w 0 + i) = mWords.getD (wdS.getD w 0 + i) 0 := fun i hi => by
    rw [hW]; exact if_pos (by omega)
  induction m with
  | zero =>
    intro i M hm hM h4
    obtain rfl : i = (wdL.getD w []).length := by omega
    refine Tm_suc (fun k => by rw [x_wordAt]) ?_
    rw [h4]
    refine Tm_chk (n_in (by omega) (by omega)) ?_
    rw [n_cl (by omega), val _ (Nat.le_refl _)]
    refine Tm_ite (fun _ => ?_) (fun c => absurd (wd_end w hw) c)
    refine Tm_suc (fun k => by rw [x_wordAt]) ?_
    rw [h4, n_add1, show M 3 = nI w from by rw [hM 3 (by decide)]; exact h3]
    have e3 : upd M 4 (nI (wdS.getD w 0 + (wdL.getD w []).length + 1)) 3 = nI w := by rw [upd_other (by decide), hM 3 (by decide)]; exact h3
    refine on _ (fun j a1 a2 => by rw [upd_other a1, upd_other a2]; exact hM j a2) (by rw [upd_same]; exact n_add1 w) (by rw [upd_other (by decide), upd_same, wd_next w hw])
  | succ m ih =>
    intro i M hm hM h4
    refine Tm_suc (fun k => by rw [x_wordAt]) ?_
    rw [h4]
    refine Tm_chk (n_in (by omega) (by omega)) ?_
    rw [n_cl (by omega), val i (by omega)]
    refine Tm_ite (fun c => absurd c (wd_at w hw i (by omega)).2) (fun _ => ?_)
    rw [n_add1]
    exact ih (i + 1) _ (by omega) (fun j hj => by rw [upd_other hj]; exact hM j hj) (by rw [upd_same]; rfl)
theorem s_wordAt (hW : σ.2.2 1 = mT mWords 264) (hab : a ≤ b) (hb : b ≤ 32768) (hT : ∀ i, a ≤ i → i < b → ¬ σ.2.2 3 i = 32) (L : Nat → Int32) (h1 : L 1 = nI a) (h2 : L 2 = nI b) : Tm (fun k => x_wordAt k 0 L σ) (fun r => r = (wordI (seg (σ.2.2 3) a b), σ)) := by
  have loop : ∀ (m w : Nat) (M : Nat → Int32), m + w = 53 → M 1 = nI a → M 2 = nI b → M 3 = nI w → M 4 = nI (wdS.getD w 0) → Tm (fun k => x_wordAt k 1 M σ) (fun r => r = (wordF (seg (σ.2.2 3) a b) m w, σ)) := by
    intro m
    induction m with
    | zero =>
      intro w M hm h1 h2 h3 h4
      obtain rfl : w = 53 := by omega
      refine Tm_suc (fun k => by rw [x_wordAt]) ?_
      refine Tm_ite (fun _ => ?_) (fun c => absurd (by rw [h4]; decide) c)
      refine Tm_suc (fun k => by rw [x_wordAt]) ?_
      exact Tm_some rfl
    | succ m ih =>
      intro w M hm h1 h2 h3 h4
      have hw : w < 53 := by omega
      have hlt := wd_lt w hw
      refine Tm_suc (fun k => by rw [x_wordAt]) ?_
      refine Tm_ite (fun c => ?_) (fun _ => ?_)
      · rw [h4, show (264 : Int32) = nI 264 from rfl, n_le (by omega) (by omega)] at c; omega
      rw [h1, h4]
      have e : wordF (seg (σ.2.2 3) a b) (m + 1) w = if wdL.getD w [] = seg (σ.2.2 3) a b then nI w else wordF (seg (σ.2.2 3) a b) m (w + 1) := rfl
      refine wordAt_cmp hW hab hb hT hw _ M h2 h3 h4 (fun N hN h => by rw [e, if_pos h]) (fun N hN h => ?_) (b - a) 0 _ (by omega) (Nat.zero_le _) (fun j hj => absurd hj (by omega)) (fun j a1 a2 => by rw [upd_other a2, upd_other a1]) (by rw [upd_other (by decide), upd_same]; rfl) (by rw [upd_same]; rfl)
      rw [e, if_neg h]
      refine wordAt_next hW hw _ N (by rw [hN 3 (by decide) (by decide)]; exact h3) (fun K hK k3 k4 => ?_) (wdL.getD w []).length 0 N (by omega) (fun _ _ => rfl) (by rw [hN 4 (by decide) (by decide)]; exact h4)
      exact ih (w + 1) K (by omega) (by rw [hK 1 (by decide) (by decide), hN 1 (by decide) (by decide)]; exact h1) (by rw [hK 2 (by decide) (by decide), hN 2 (by decide) (by decide)]; exact h2) k3 k4
  refine Tm_suc (fun k => by rw [x_wordAt]) ?_
  exact loop 53 0 _ rfl (by rw [upd_other (by decide), upd_other (by decide)]; exact h1) (by rw [upd_other (by decide), upd_other (by decide)]; exact h2) (by rw [upd_other (by decide), upd_same]; rfl) (by rw [upd_same]; rfl)
end WORDAT
end JnS7
section JnS8
/-! A token of the reference. -/
abbrev isN (c : Int32) : Prop := isL c ∨ isD c ∨ c = 95
def nameE (T : Nat → Int32) (n : Nat) : Nat → Nat → Nat
  | 0, p => p
  | f + 1, p => if isN (rB T n p) then nameE T n f (p + 1) else p
def digE (T : Nat → Int32) (n : Nat) : Nat → Nat → Nat
  | 0, p => p
  | f + 1, p => if isD (rB T n p) then digE T n f (p + 1) else p
def strE (T : Nat → Int32) (n : Nat) : Nat → Nat → Nat
  | 0, p => p
  | f + 1, p => if p < n ∧ ¬ T p = 34 ∧ ¬ T p ≤ 31 then strE T n f (p + 1) else p
theorem rB_out {T : Nat → Int32} {n p : Nat} (h : n ≤ p) : rB T n p = 0 := if_neg (by omega)
theorem rB_in {T : Nat → Int32} {n p : Nat} (h : p < n) : rB T n p = T p := if_pos h
theorem isN_lt {T : Nat → Int32} {n p : Nat} (h : isN (rB T n p)) : p < n := by
  by_cases c : p < n
  · exact c
  · rw [rB_out (by omega)] at h; exact absurd h (by decide)
theorem isD_lt {T : Nat → Int32} {n p : Nat} (h : isD (rB T n p)) : p < n := isN_lt (Or.inr (Or.inl h))
theorem nameE_step {T : Nat → Int32} {n f p : Nat} : nameE T n (f + 1) p = if isN (rB T n p) then nameE T n f (p + 1) else p := rfl
theorem digE_step {T : Nat → Int32} {n f p : Nat} : digE T n (f + 1) p = if isD (rB T n p) then digE T n f (p + 1) else p := rfl
theorem strE_step {T : Nat → Int32} {n f p : Nat} : strE T n (f + 1) p = if p < n ∧ ¬ T p = 34 ∧ ¬ T p ≤ 31 then strE T n f (p + 1) else p := rfl
theorem nameE_ge (T : Nat → Int32) (n : Nat) : ∀ f p : Nat, p ≤ nameE T n f p
  | 0, p => Nat.le_refl _
  | f + 1, p => by
    rw [nameE_step]
    split
    · have := nameE_ge T n f (p + 1); omega
    · exact Nat.le_refl _
theorem nameE_le (T : Nat → Int32) (n : Nat) : ∀ f p : Nat, p ≤ n → nameE T n f p ≤ n
  | 0, p, h => h
  | f + 1, p, h => by
    rw [nameE_step]
    split
    · next c => have := isN_lt c; exact nameE_le T n f (p + 1) (by omega)
    · exact h
theorem nameE_all (T : Nat → Int32) (n : Nat) : ∀ f p i : Nat, p ≤ i → i < nameE T n f p → isN (T i)
  | 0, p, i, h1, h2 => absurd h2 (by show ¬ i < p; omega)
  | f + 1, p, i, h1, h2 => by
    rw [nameE_step] at h2
    split at h2
    · next c =>
      by_cases e : i = p
      · rw [e]; rw [rB_in (isN_lt c)] at c; exact c
      · exact nameE_all T n f (p + 1) i (by omega) h2
    · omega
theorem digE_ge (T : Nat → Int32) (n : Nat) : ∀ f p : Nat, p ≤ digE T n f p
  | 0, p => Nat.le_refl _
  | f + 1, p => by
    rw [digE_step]
    split
    · have := digE_ge T n f (p + 1); omega
    · exact Nat.le_refl _
theorem digE_le (T : Nat → Int32) (n : Nat) : ∀ f p : Nat, p ≤ n → digE T n f p ≤ n
  | 0, p, h => h
  | f + 1, p, h => by
    rw [digE_step]
    split
    · next c => have := isD_lt c; exact digE_le T n f (p + 1) (by omega)
    · exact h
theorem strE_ge (T : Nat → Int32) (n : Nat) : ∀ f p : Nat, p ≤ strE T n f p
  | 0, p => Nat.le_refl _
  | f + 1, p => by
    rw [strE_step]
    split
    · have := strE_ge T n f (p + 1); omega
    · exact Nat.le_refl _
theorem strE_le (T : Nat → Int32) (n : Nat) : ∀ f p : Nat, p ≤ n → strE T n f p ≤ n
  | 0, p, h => h
  | f + 1, p, h => by
    rw [strE_step]
    split
    · next c => exact strE_le T n f (p + 1) (by omega)
    · exact h
section TAKE
variable {σ : MS} {n : Nat}
theorem name_loop (hn : mN σ n) (L : Nat → Int32) (Q : Int32 × MS → Prop) : ∀ (f p : Nat), n - p < f → p ≤ n → Tm (fun k => x_take k 5 L (mAt σ (nameE (σ.2.2 3) n f p))) Q → Tm (fun k => x_take k 3 L (mAt σ p)) Q := by
  intro f
  induction f with
  | zero => intro p h; omega
  | succ f ih =>
    intro p hf hp t
    have hN := hn.2
    rw [nameE_step] at t
    have on : isN (rB (σ.2.2 3) n p) → Tm (fun k => x_take k 4 L (mAt σ p)) Q := fun h => by
      rw [if_pos h] at t
      have := isN_lt h
      refine Tm_suc (fun k => by rw [x_take]) ?_
      rw [mAt_up]
      exact ih (p + 1) (by omega) (by omega) t
    refine Tm_suc (fun k => by rw [x_take]) ?_
    rw [mAt_at]
    refine Tm_ob (s_byteAt (mAt_mN hn) (p := p) (by omega) upd_same) (fun r1 h1 => ?_)
    subst h1
    refine Tm_ob (s_isLetter _ _) (fun r2 h2 => ?_)
    obtain ⟨e2, i2⟩ := h2
    rw [upd_same] at i2
    rw [e2]
    refine Tm_ite (fun c => ?_) (fun c => on (Or.inl (i2.mp c)))
    show Tm (fun k => ob (x_byteAt k 0 (upd (fun _ => 0) 1 ((mAt σ p).1 5)) (mAt σ p)) _) _
    rw [mAt_at]
    refine Tm_ob (s_byteAt (mAt_mN hn) (p := p) (by omega) upd_same) (fun r4 h4 => ?_)
    subst h4
    refine Tm_ob (s_isDigit _ _) (fun r5 h5 => ?_)
    obtain ⟨e5, i5⟩ := h5
    rw [upd_same] at i5
    rw [e5]
    refine Tm_ite (fun c5 => ?_) (fun c5 => on (Or.inr (Or.inl (i5.mp c5))))
    show Tm (fun k => ob (x_byteAt k 0 (upd (fun _ => 0) 1 ((mAt σ p).1 5)) (mAt σ p)) _) _
    rw [mAt_at]
    refine Tm_ob (s_byteAt (mAt_mN hn) (p := p) (by omega) upd_same) (fun r7 h7 => ?_)
    subst h7
    refine Tm_ite (fun c7 => on (Or.inr (Or.inr c7))) (fun c7 => ?_)
    rw [if_neg (fun h => h.elim (fun h => i2.mpr h c) (fun h => h.elim (fun h => i5.mpr h c5) c7))] at t
    exact t
theorem dig_loop (hn : mN σ n) (L : Nat → Int32) (Q : Int32 × MS → Prop) : ∀ (f p : Nat), n - p < f → p ≤ n → Tm (fun k => x_take k 12 L (mAt σ (digE (σ.2.2 3) n f p))) Q → Tm (fun k => x_take k 11 L (mAt σ p)) Q := by
  intro f
  induction f with
  | zero => intro p h; omega
  | succ f ih =>
    intro p hf hp t
    have hN := hn.2
    rw [digE_step] at t
    refine Tm_suc (fun k => by rw [x_take]) ?_
    rw [mAt_at]
    refine Tm_ob (s_byteAt (mAt_mN hn) (p := p) (by omega) upd_same) (fun r1 h1 => ?_)
    subst h1
    refine Tm_ob (s_isDigit _ _) (fun r2 h2 => ?_)
    obtain ⟨e2, i2⟩ := h2
    rw [upd_same] at i2
    have i2 : ¬ r2.1 = 0 ↔ isD (rB (σ.2.2 3) n p) := i2
    rw [e2]
    refine Tm_ite (fun c => ?_) (fun c => ?_)
    · rw [if_neg (fun h => i2.mpr h c)] at t; exact t
    · have hd := i2.mp c
      have := isD_lt hd
      rw [if_pos hd] at t
      show Tm (fun k => x_take k 11 L (upd (mAt σ p).1 5 ((mAt σ p).1 5 + 1), (mAt σ p).2.1, (mAt σ p).2.2)) Q
      rw [mAt_up]
      exact ih (p + 1) (by omega) (by omega) t
theorem str_loop (hn : mN σ n) (L : Nat → Int32) (Q : Int32 × MS → Prop) : ∀ (f p : Nat), n - p < f → p ≤ n → Tm (fun k => x_take k 17 L (mAt σ (strE (σ.2.2 3) n f p))) Q → Tm (fun k => x_take k 16 L (mAt σ p)) Q := by
  intro f
  induction f with
  | zero => intro p h; omega
  | succ f ih =>
    intro p hf hp t
    have hN := hn.2
    have h4 : (mAt σ p).1 4 = nI n := (mAt_mN hn).1
    rw [strE_step] at t
    refine Tm_suc (fun k => by rw [x_take]) ?_
    rw [h4, mAt_at]
    refine Tm_ite (fun c => ?_) (fun c => ?_)
    · rw [n_le (by omega) (by omega)] at c
      rw [if_neg (by omega)] at t; exact t
    · rw [n_le (by omega) (by omega)] at c
      refine Tm_chk (n_in (by omega) (by omega)) ?_
      rw [n_cl (p := p) (by omega)]
      refine Tm_ite (fun c2 => ?_) (fun c2 => ?_)
      · rw [if_neg (fun h => h.2.1 c2)] at t; exact t
      · refine Tm_chk (by rw [i_lt, n_int (p := p) (by omega), i_c0]; omega) ?_
        refine Tm_ite (fun c3 => ?_) (fun c3 => ?_)
        · rw [if_neg (fun h => h.2.2 c3)] at t; exact t
        · rw [if_pos ⟨by omega, c2, c3⟩] at t
          rw [n_add1]
          have e2 : (upd (mAt σ p).1 5 (nI (p + 1)), (mAt σ p).2.1, (mAt σ p).2.2) = mAt σ (p + 1) := by
            show (upd (upd σ.1 5 (nI p)) 5 (nI (p + 1)), σ.2.1, σ.2.2) = _
            rw [upd_upd]; rfl
          rw [e2]
          exact ih (p + 1) (by omega) (by omega) t
end TAKE
end JnS8
section JnS9
/-- the sign that c and d begin with; 0: none -/
def signF (c d : Int32) : Int32 := if c = 35 then 23 else if c = 40 then 6 else if c = 41 then 7 else if c = 42 then (if d = 42 then 5 else 4) else if c = 43 then 2 else if c = 44 then 12 else if c = 45 then 3 else if c = 46 then (if d = 46 then 16 else 0) else if c = 47 then (if d = 61 then 18 else 24) else if c = 58 then (if d = 61 then 1 else 14) else if c = 59 then 13 else if c = 60 then (if d = 61 then 20 else 19) else if c = 61 then 17 else if c = 62 then (if d = 61 then 22 else 21) else if c = 91 then 10 else if c = 93 then 11 else if c = 123 then 8 else if c = 124 then 15 else if c = 125 then 9 else 0
theorem s_sign (L : Nat → Int32) (σ : MS) : Tm (fun k => x_sign k 0 L σ) (fun r => r = (signF (L 0) (L 1), σ)) := by
  unfold signF
  refine Tm_suc (fun k => by rw [x_sign]) ?_
  refine Tm_ite (fun h => ?_) (fun h0 => ?_)
  · rw [if_pos h]
    refine Tm_suc (fun k => by rw [x_sign]) ?_
    exact Tm_some rfl
  refine Tm_ite (fun h => ?_) (fun h1 => ?_)
  · rw [if_neg h0, if_pos h]
    refine Tm_suc (fun k => by rw [x_sign]) ?_
    exact Tm_some rfl
  refine Tm_ite (fun h => ?_) (fun h2 => ?_)
  · rw [if_neg h0, if_neg h1, if_pos h]
    refine Tm_suc (fun k => by rw [x_sign]) ?_
    exact Tm_some rfl
  refine Tm_ite (fun h => ?_) (fun h3 => ?_)
  · rw [if_neg h0, if_neg h1, if_neg h2, if_pos h]
    refine Tm_suc (fun k => by rw [x_sign]) ?_
    refine Tm_ite (fun g => ?_) (fun g => ?_)
    · rw [if_pos g]
      refine Tm_suc (fun k => by rw [x_sign]) ?_
      exact Tm_some (by rw [upd_same])
    · rw [if_neg g]
      refine Tm_suc (fun k => by rw [x_sign]) ?_
      refine Tm_suc (fun k => by rw [x_sign]) ?_
      exact Tm_some (by rw [upd_same])
  refine Tm_ite (fun h => ?_) (fun h4 => ?_)
  · rw [if_neg h0, if_neg h1, if_neg h2, if_neg h3, if_pos h]
    refine Tm_suc (fun k => by rw [x_sign]) ?_
    exact Tm_some rfl
  refine Tm_ite (fun h => ?_) (fun h5 => ?_)
  · rw [if_neg h0, if_neg h1, if_neg h2, if_neg h3, if_neg h4, if_pos h]
    refine Tm_suc (fun k => by rw [x_sign]) ?_
    exact Tm_some rfl
  refine Tm_ite (fun h => ?_) (fun h6 => ?_)
  · rw [if_neg h0, if_neg h1, if_neg h2, if_neg h3, if_neg h4, if_neg h5, if_pos h]
    refine Tm_suc (fun k => by rw [x_sign]) ?_
    exact Tm_some rfl
  refine Tm_ite (fun h => ?_) (fun h7 => ?_)
  · rw [if_neg h0, if_neg h1, if_neg h2, if_neg h3, if_neg h4, if_neg h5, if_neg h6, if_pos h]
    refine Tm_suc (fun k => by rw [x_sign]) ?_
    refine Tm_ite (fun g => ?_) (fun g => ?_)
    · rw [if_pos g]
      refine Tm_suc (fun k => by rw [x_sign]) ?_
      exact Tm_some (by rw [upd_same])
    · rw [if_neg g]
      refine Tm_suc (fun k => by rw [x_sign]) ?_
      refine Tm_suc (fun k => by rw [x_sign]) ?_
      exact Tm_some (by rw [upd_same])
  refine Tm_ite (fun h => ?_) (fun h8 => ?_)
  · rw [if_neg h0, if_neg h1, if_neg h2, if_neg h3, if_neg h4, if_neg h5, if_neg h6, if_neg h7, if_pos h]
    refine Tm_suc (fun k => by rw [x_sign]) ?_
    refine Tm_ite (fun g => ?_) (fun g => ?_)
    · rw [if_pos g]
      refine Tm_suc (fun k => by rw [x_sign]) ?_
      exact Tm_some (by rw [upd_same])
    · rw [if_neg g]
      refine Tm_suc (fun k => by rw [x_sign]) ?_
      refine Tm_suc (fun k => by rw [x_sign]) ?_
      exact Tm_some (by rw [upd_same])
  refine Tm_ite (fun h => ?_) (fun h9 => ?_)
  · rw [if_neg h0, if_neg h1, if_neg h2, if_neg h3, if_neg h4, if_neg h5, if_neg h6, if_neg h7, if_neg h8, if_pos h]
    refine Tm_suc (fun k => by rw [x_sign]) ?_
    refine Tm_ite (fun g => ?_) (fun g => ?_)
    · rw [if_pos g]
      refine Tm_suc (fun k => by rw [x_sign]) ?_
      exact Tm_some (by rw [upd_same])
    · rw [if_neg g]
      refine Tm_suc (fun k => by rw [x_sign]) ?_
      refine Tm_suc (fun k => by rw [x_sign]) ?_
      exact Tm_some (by rw [upd_same])
  refine Tm_ite (fun h => ?_) (fun h10 => ?_)
  · rw [if_neg h0, if_neg h1, if_neg h2, if_neg h3, if_neg h4, if_neg h5, if_neg h6, if_neg h7, if_neg h8, if_neg h9, if_pos h]
    refine Tm_suc (fun k => by rw [x_sign]) ?_
    exact Tm_some rfl
  refine Tm_ite (fun h => ?_) (fun h11 => ?_)
  · rw [if_neg h0, if_neg h1, if_neg h2, if_neg h3, if_neg h4, if_neg h5, if_neg h6, if_neg h7, if_neg h8, if_neg h9, if_neg h10, if_pos h]
    refine Tm_suc (fun k => by rw [x_sign]) ?_
    refine Tm_ite (fun g => ?_) (fun g => ?_)
    · rw [if_pos g]
      refine Tm_suc (fun k => by rw [x_sign]) ?_
      exact Tm_some (by rw [upd_same])
    · rw [if_neg g]
      refine Tm_suc (fun k => by rw [x_sign]) ?_
      refine Tm_suc (fun k => by rw [x_sign]) ?_
      exact Tm_some (by rw [upd_same])
  refine Tm_ite (fun h => ?_) (fun h12 => ?_)
  · rw [if_neg h0, if_neg h1, if_neg h2, if_neg h3, if_neg h4, if_neg h5, if_neg h6, if_neg h7, if_neg h8, if_neg h9, if_neg h10, if_neg h11, if_pos h]
    refine Tm_suc (fun k => by rw [x_sign]) ?_
    exact Tm_some rfl
  refine Tm_ite (fun h => ?_) (fun h13 => ?_)
  · rw [if_neg h0, if_neg h1, if_neg h2, if_neg h3, if_neg h4, if_neg h5, if_neg h6, if_neg h7, if_neg h8, if_neg h9, if_neg h10, if_neg h11, if_neg h12, if_pos h]
    refine Tm_suc (fun k => by rw [x_sign]) ?_
    refine Tm_ite (fun g => ?_) (fun g => ?_)
    · rw [if_pos g]
      refine Tm_suc (fun k => by rw [x_sign]) ?_
      exact Tm_some (by rw [upd_same])
    · rw [if_neg g]
      refine Tm_suc (fun k => by rw [x_sign]) ?_
      refine Tm_suc (fun k => by rw [x_sign]) ?_
      exact Tm_some (by rw [upd_same])
  refine Tm_ite (fun h => ?_) (fun h14 => ?_)
  · rw [if_neg h0, if_neg h1, if_neg h2, if_neg h3, if_neg h4, if_neg h5, if_neg h6, if_neg h7, if_neg h8, if_neg h9, if_neg h10, if_neg h11, if_neg h12, if_neg h13, if_pos h]
    refine Tm_suc (fun k => by rw [x_sign]) ?_
    exact Tm_some rfl
  refine Tm_ite (fun h => ?_) (fun h15 => ?_)
  · rw [if_neg h0, if_neg h1, if_neg h2, if_neg h3, if_neg h4, if_neg h5, if_neg h6, if_neg h7, if_neg h8, if_neg h9, if_neg h10, if_neg h11, if_neg h12, if_neg h13, if_neg h14, if_pos h]
    refine Tm_suc (fun k => by rw [x_sign]) ?_
    exact Tm_some rfl
  refine Tm_ite (fun h => ?_) (fun h16 => ?_)
  · rw [if_neg h0, if_neg h1, if_neg h2, if_neg h3, if_neg h4, if_neg h5, if_neg h6, if_neg h7, if_neg h8, if_neg h9, if_neg h10, if_neg h11, if_neg h12, if_neg h13, if_neg h14, if_neg h15, if_pos h]
    refine Tm_suc (fun k => by rw [x_sign]) ?_
    exact Tm_some rfl
  refine Tm_ite (fun h => ?_) (fun h17 => ?_)
  · rw [if_neg h0, if_neg h1, if_neg h2, if_neg h3, if_neg h4, if_neg h5, if_neg h6, if_neg h7, if_neg h8, if_neg h9, if_neg h10, if_neg h11, if_neg h12, if_neg h13, if_neg h14, if_neg h15, if_neg h16, if_pos h]
    refine Tm_suc (fun k => by rw [x_sign]) ?_
    exact Tm_some rfl
  refine Tm_ite (fun h => ?_) (fun h18 => ?_)
  · rw [if_neg h0, if_neg h1, if_neg h2, if_neg h3, if_neg h4, if_neg h5, if_neg h6, if_neg h7, if_neg h8, if_neg h9, if_neg h10, if_neg h11, if_neg h12, if_neg h13, if_neg h14, if_neg h15, if_neg h16, if_neg h17, if_pos h]
    refine Tm_suc (fun k => by rw [x_sign]) ?_
    exact Tm_some rfl
  rw [if_neg h0, if_neg h1, if_neg h2, if_neg h3, if_neg h4, if_neg h5, if_neg h6, if_neg h7, if_neg h8, if_neg h9, if_neg h10, if_neg h11, if_neg h12, if_neg h13, if_neg h14, if_neg h15, if_neg h16, if_neg h17, if_neg h18]
  refine Tm_suc (fun k => by rw [x_sign]) ?_
  exact Tm_some rfl
theorem s_fault (L : Nat → Int32) (σ : MS) : Tm (fun k => x_fault k 0 L σ) (fun r => r = (0, if σ.1 10 = 0 then (upd (upd (upd σ.1 10 1) 11 (L 1)) 12 (L 2), σ.2) else σ)) := by
  refine Tm_suc (fun k => by rw [x_fault]) ?_
  refine Tm_ite (fun c => ?_) (fun c => ?_)
  · rw [if_pos c]
    refine Tm_suc (fun k => by rw [x_fault]) ?_
    refine Tm_suc (fun k => by rw [x_fault]) ?_
    refine Tm_suc (fun k => by rw [x_fault]) ?_
    exact Tm_some rfl
  · rw [if_neg c]
    refine Tm_suc (fun k => by rw [x_fault]) ?_
    exact Tm_some rfl
/-- a token that begins at q: its kind, what it is, its end; w: what the one before was -/
def tokM (w : Int32) (T : Nat → Int32) (n q : Nat) : Int32 × Int32 × Nat :=
  if q = n then (0, w, q)
  else if isL (rB T n q) then
    (if nameE T n (n + 1) q - q ≤ 16 then (if wordI (seg T q (nameE T n (n + 1) q)) = -1 then 1 else 5) else 6, wordI (seg T q (nameE T n (n + 1) q)), nameE T n (n + 1) q)
  else if isD (rB T n q) then (if digE T n (n + 1) q - q ≤ 60 then 2 else 6, w, digE T n (n + 1) q)
  else if rB T n q = 34 then
    (if (strE T n (n + 1) (q + 1) < n ∧ T (strE T n (n + 1) (q + 1)) = 34) ∧ strE T n (n + 1) (q + 1) - q - 1 ≤ 100 then 3 else 6, w, strE T n (n + 1) (q + 1) + (if strE T n (n + 1) (q + 1) < n ∧ T (strE T n (n + 1) (q + 1)) = 34 then 1 else 0))
  else (if signF (rB T n q) (rB T n (q + 1)) = 0 then 6 else 4, signF (rB T n q) (rB T n (q + 1)), q + (if signF (rB T n q) (rB T n (q + 1)) = 1 ∨ signF (rB T n q) (rB T n (q + 1)) = 5 ∨ signF (rB T n q) (rB T n (q + 1)) = 16 ∨ signF (rB T n q) (rB T n (q + 1)) = 18 ∨ signF (rB T n q) (rB T n (q + 1)) = 20 ∨ signF (rB T n q) (rB T n (q + 1)) = 22 then 2 else 1))
/-- what take leaves: the token t that begins at q -/
def mTook (σ : MS) (q : Nat) (t : Int32 × Int32 × Nat) (r : Int32 × MS) : Prop := r.2.2 = σ.2 ∧ r.2.1 5 = nI t.2.2 ∧ r.2.1 6 = t.1 ∧ r.2.1 7 = t.2.1 ∧ r.2.1 8 = nI q ∧ r.2.1 9 = nI t.2.2 ∧ (∀ j, j < 5 ∨ 12 < j → r.2.1 j = σ.1 j) ∧ (if t.1 = 6 ∧ σ.1 10 = 0 then r.2.1 10 = 1 ∧ r.2.1 11 = 1 ∧ r.2.1 12 = nI q else r.2.1 10 = σ.1 10 ∧ r.2.1 11 = σ.1 11 ∧ r.2.1 12 = σ.1 12)
theorem take_end {σ s : MS} {q : Nat} {t : Int32 × Int32 × Nat} (L : Nat → Int32) (h2 : s.2 = σ.2) (h5 : s.1 5 = nI t.2.2) (h6 : s.1 6 = t.1) (h7 : s.1 7 = t.2.1) (h8 : s.1 8 = nI q) (ho : ∀ j, j < 5 ∨ 9 < j → s.1 j = σ.1 j) : Tm (fun k => x_take k 33 L s) (mTook σ q t) := by
  refine Tm_suc (fun k => by rw [x_take]) ?_
  refine Tm_suc (fun k => by rw [x_take]) ?_
  have f6 : upd s.1 9 (s.1 5) 6 = t.1 := by rw [upd_other (by decide)]; exact h6
  have f10 : upd s.1 9 (s.1 5) 10 = σ.1 10 := by rw [upd_other (by decide)]; exact ho 10 (by decide)
  have f8 : upd s.1 9 (s.1 5) 8 = nI q := by rw [upd_other (by decide)]; exact h8
  have base : ∀ u : Nat → Int32, (∀ j, ¬ (j = 10 ∨ j = 11 ∨ j = 12) → u j = upd s.1 9 (s.1 5) j) → u 5 = nI t.2.2 ∧ u 6 = t.1 ∧ u 7 = t.2.1 ∧ u 8 = nI q ∧ u 9 = nI t.2.2 ∧ (∀ j, j < 5 ∨ 12 < j → u j = σ.1 j) := fun u hu => by
    refine ⟨?_, ?_, ?_, ?_, ?_, fun j hj => ?_⟩
    · rw [hu 5 (by decide), upd_other (by decide)]; exact h5
    · rw [hu 6 (by decide)]; exact f6
    · rw [hu 7 (by decide), upd_other (by decide)]; exact h7
    · rw [hu 8 (by decide)]; exact f8
    · rw [hu 9 (by decide), upd_same]; exact h5
    · rw [hu j (by omega), upd_other (by omega)]; exact ho j (by omega)
  have plain : ¬ (t.1 = 6 ∧ σ.1 10 = 0) → mTook σ q t (0, (upd s.1 9 (s.1 5), s.2.1, s.2.2)) := fun h => by
    obtain ⟨b5, b6, b7, b8, b9, bo⟩ := base (upd s.1 9 (s.1 5)) (fun _ _ => rfl)
    refine ⟨h2, b5, b6, b7, b8, b9, bo, ?_⟩
    rw [if_neg h]
    exact ⟨f10, by show upd s.1 9 (s.1 5) 11 = _; rw [upd_other (by decide)]; exact ho 11 (by decide), by show upd s.1 9 (s.1 5) 12 = _; rw [upd_other (by decide)]; exact ho 12 (by decide)⟩
  show Tm (fun k => if upd s.1 9 (s.1 5) 6 = 6 then _ else _) _
  rw [f6]
  refine Tm_ite (fun c => ?_) (fun c => ?_)
  · refine Tm_ob (s_fault _ _) (fun r hr => ?_)
    subst hr
    refine Tm_suc (fun k => by rw [x_take]) ?_
    refine Tm_some ?_
    show mTook σ q t (0, if upd s.1 9 (s.1 5) 10 = 0 then _ else _)
    rw [f10]
    by_cases g : σ.1 10 = 0
    · rw [if_pos g]
      obtain ⟨b5, b6, b7, b8, b9, bo⟩ := base (upd (upd (upd (upd s.1 9 (s.1 5)) 10 1) 11 1) 12 (nI q)) (fun j hj => by rw [upd_other (by omega), upd_other (by omega), upd_other (by omega)])
      have e : (upd (upd (upd (upd s.1 9 (s.1 5)) 10 1) 11 (upd (upd (fun _ => 0) 1 1) 2 (upd s.1 9 (s.1 5) 8) 1)) 12 (upd (upd (fun _ => 0) 1 1) 2 (upd s.1 9 (s.1 5) 8) 2) : Nat → Int32) = upd (upd (upd (upd s.1 9 (s.1 5)) 10 1) 11 1) 12 (nI q) := by
        rw [upd_same, upd_other (by decide), upd_same, f8]
      show mTook σ q t (0, (upd (upd (upd (upd s.1 9 (s.1 5)) 10 1) 11 (upd (upd (fun _ => 0) 1 1) 2 (upd s.1 9 (s.1 5) 8) 1)) 12 (upd (upd (fun _ => 0) 1 1) 2 (upd s.1 9 (s.1 5) 8) 2), s.2))
      rw [e]
      refine ⟨h2, b5, b6, b7, b8, b9, bo, ?_⟩
      rw [if_pos ⟨c, g⟩]
      refine ⟨?_, ?_, ?_⟩
      · show upd (upd (upd (upd s.1 9 (s.1 5)) 10 1) 11 1) 12 (nI q) 10 = 1
        rw [upd_other (by decide), upd_other (by decide), upd_same]
      · show upd (upd (upd (upd s.1 9 (s.1 5)) 10 1) 11 1) 12 (nI q) 11 = 1
        rw [upd_other (by decide), upd_same]
      · show upd (upd (upd (upd s.1 9 (s.1 5)) 10 1) 11 1) 12 (nI q) 12 = nI q
        rw [upd_same]
    · rw [if_neg g]
      exact plain (fun h => g h.2)
  · refine Tm_suc (fun k => by rw [x_take]) ?_
    exact Tm_some (plain (fun h => c h.1))
end JnS9
section JnS10
theorem n_sub {p q : Nat} (hp : p < 2147483648) (hq : q ≤ p) : nI p - nI q = nI (p - q) := by
  rw [i_eq, i_sub] <;> rw [n_int hp, n_int (by omega)]
  · rw [n_int (by omega)]; omega
  · omega
  · omega
theorem s_take {σ : MS} {n p : Nat} (hn : mN σ n) (hW : σ.2.2 1 = mT mWords 264) (h5 : σ.1 5 = nI p) (hp : p ≤ n) (L : Nat → Int32) : Tm (fun k => x_take k 0 L σ) (mTook σ (sk (σ.2.2 3) n p) (tokM (σ.1 7) (σ.2.2 3) n (sk (σ.2.2 3) n p))) := by
  have hN := hn.2
  have hq : sk (σ.2.2 3) n p ≤ n := skE_le _ _ _ _ hp
  refine Tm_suc (fun k => by rw [x_take]) ?_
  refine Tm_ob (s_skip hn h5 hp _) (fun r hr => ?_)
  subst hr
  generalize sk (σ.2.2 3) n p = q at hq ⊢
  show Tm (fun k => x_take k 1 L (upd (mAt σ q).1 8 ((mAt σ q).1 5), σ.2.1, σ.2.2)) _
  rw [mAt_at]
  generalize hs : ((upd (mAt σ q).1 8 (nI q), σ.2.1, σ.2.2) : MS) = s
  have s2 : s.2 = σ.2 := by rw [← hs]
  have s22 : s.2.2 = σ.2.2 := by rw [← hs]
  have s5 : s.1 5 = nI q := by rw [← hs]; show upd (mAt σ q).1 8 (nI q) 5 = _; rw [upd_other (by decide), mAt_at]
  have s8 : s.1 8 = nI q := by rw [← hs]; show upd (mAt σ q).1 8 (nI q) 8 = _; exact upd_same
  have so : ∀ j, j ≠ 5 → j ≠ 8 → s.1 j = σ.1 j := fun j a b => by rw [← hs]; show upd (mAt σ q).1 8 (nI q) j = _; rw [upd_other b, mAt_o a]
  have sn : mN s n := ⟨by rw [so 4 (by decide) (by decide)]; exact hn.1, hN⟩
  have self : mAt s q = s := mAt_self s5
  have hT : s.2.2 3 = σ.2.2 3 := by rw [s22]
  clear hs
  -- the end: from a state that is s but for fields 5, 6, 7
  have fin : ∀ (v : MS) (t : Int32 × Int32 × Nat) (M : Nat → Int32), v.2 = s.2 → v.1 5 = nI t.2.2 → v.1 6 = t.1 → v.1 7 = t.2.1 → (∀ j, j ≠ 5 → j ≠ 6 → j ≠ 7 → v.1 j = s.1 j) → Tm (fun k => x_take k 33 M v) (mTook σ q t) := by
    intro v t M v2 v5 v6 v7 vo
    exact take_end M (v2.trans s2) v5 v6 v7 (by rw [vo 8 (by decide) (by decide) (by decide)]; exact s8) (fun j hj => by rw [vo j (by omega) (by omega) (by omega), so j (by omega) (by omega)])
  refine Tm_suc (fun k => by rw [x_take]) ?_
  rw [s5, sn.1]
  unfold tokM
  refine Tm_ite (fun c => ?_) (fun c => ?_)
  · rw [n_eq (by omega) (by omega)] at c
    rw [if_pos c]
    refine fin _ _ _ rfl ?_ ?_ ?_ (fun j a b d => upd_other b)
    · show upd s.1 6 0 5 = _; rw [upd_other (by decide)]; exact s5
    · show upd s.1 6 0 6 = 0; exact upd_same
    · show upd s.1 6 0 7 = _; rw [upd_other (by decide)]; exact so 7 (by decide) (by decide)
  rw [n_eq (by omega) (by omega)] at c
  rw [if_neg c]
  refine Tm_suc (fun k => by rw [x_take]) ?_
  rw [s5]
  refine Tm_ob (s_byteAt sn (p := q) (by omega) upd_same) (fun r1 h1 => ?_)
  subst h1
  refine Tm_ob (s_isLetter _ _) (fun r2 h2 => ?_)
  obtain ⟨e2, i2⟩ := h2
  rw [upd_same] at i2
  have i2 : ¬ r2.1 = 0 ↔ isL (rB (σ.2.2 3) n q) := by rw [← hT]; exact i2
  rw [e2]
  refine Tm_ite (fun cl => ?_) (fun cl => ?_)
  rotate_left
  -- a name
  · have hl := i2.mp cl
    rw [if_pos hl]
    have hE : nameE (σ.2.2 3) n (n + 1) q ≤ n := nameE_le _ _ _ _ hq
    have hG : q ≤ nameE (σ.2.2 3) n (n + 1) q := nameE_ge _ _ _ _
    have hA := nameE_all (σ.2.2 3) n (n + 1) q
    show Tm (fun k => x_take k 3 L s) _
    rw [← self]
    refine name_loop sn L _ (n + 1) q (by omega) hq ?_
    rw [hT]
    generalize nameE (σ.2.2 3) n (n + 1) q = e at hE hG hA ⊢
    refine Tm_suc (fun k => by rw [x_take]) ?_
    rw [mAt_at, mAt_o (by decide), s8]
    refine Tm_ob (s_wordAt (σ := mAt s e) (a := q) (b := e) (by show s.2.2 1 = _; rw [s22]; exact hW) hG (by omega) (fun i a b => ?_) _ (by rw [upd_other (by decide), upd_same]) upd_same) (fun r h => ?_)
    · show ¬ s.2.2 3 i = 32
      rw [hT]
      intro h
      have := hA i a b
      rw [h] at this
      exact absurd this (by decide)
    subst h
    show Tm (fun k => x_take k 6 L (upd (mAt s e).1 7 (wordI (seg (s.2.2 3) q e)), s.2.1, s.2.2)) _
    rw [hT]
    generalize wordI (seg (σ.2.2 3) q e) = wd
    have v5 : upd (mAt s e).1 7 wd 5 = nI e := by rw [upd_other (by decide), mAt_at]
    have v8 : upd (mAt s e).1 7 wd 8 = nI q := by rw [upd_other (by decide), mAt_o (by decide)]; exact s8
    have last : ∀ (x : Int32) (M : Nat → Int32), M 100 = x → Tm (fun k => x_take k 9 M (upd (mAt s e).1 7 wd, s.2.1, s.2.2)) (mTook σ q (x, wd, e)) := fun x M hx => by
      refine Tm_suc (fun k => by rw [x_take]) ?_
      rw [hx]
      refine fin _ _ _ rfl ?_ ?_ ?_ (fun j a b d => ?_)
      · show upd (upd (mAt s e).1 7 wd) 6 x 5 = _; rw [upd_other (by decide)]; exact v5
      · show upd (upd (mAt s e).1 7 wd) 6 x 6 = x; exact upd_same
      · show upd (upd (mAt s e).1 7 wd) 6 x 7 = _; rw [upd_other (by decide), upd_same]
      · show upd (upd (mAt s e).1 7 wd) 6 x j = _; rw [upd_other b, upd_other d, mAt_o a]
    refine Tm_suc (fun k => by rw [x_take]) ?_
    show Tm (fun k => if upd (mAt s e).1 7 wd 5 - upd (mAt s e).1 7 wd 8 ≤ 16 then _ else _) _
    rw [v5, v8, n_sub (by omega) hG, show (16 : Int32) = nI 16 from rfl]
    refine Tm_ite (fun c6 => ?_) (fun c6 => ?_)
    · rw [n_le (by omega) (by omega)] at c6
      rw [if_pos c6]
      refine Tm_suc (fun k => by rw [x_take]) ?_
      show Tm (fun k => if upd (mAt s e).1 7 wd 7 = -1 then _ else _) _
      rw [upd_same]
      refine Tm_ite (fun c7 => ?_) (fun c7 => ?_)
      · rw [if_pos c7]; exact last 1 _ upd_same
      · rw [if_neg c7]
        refine Tm_suc (fun k => by rw [x_take]) ?_
        exact last 5 _ upd_same
    · rw [n_le (by omega) (by omega)] at c6
      rw [if_neg c6]
      exact last 6 _ upd_same
  have hl : ¬ isL (rB (σ.2.2 3) n q) := fun h => i2.mpr h cl
  rw [if_neg hl]
  show Tm (fun k => x_take k 10 L s) _
  refine Tm_suc (fun k => by rw [x_take]) ?_
  rw [s5]
  refine Tm_ob (s_byteAt sn (p := q) (by omega) upd_same) (fun r1 h1 => ?_)
  subst h1
  refine Tm_ob (s_isDigit _ _) (fun r3 h3 => ?_)
  obtain ⟨e3, i3⟩ := h3
  rw [upd_same] at i3
  have i3 : ¬ r3.1 = 0 ↔ isD (rB (σ.2.2 3) n q) := by rw [← hT]; exact i3
  rw [e3]
  refine Tm_ite (fun cd => ?_) (fun cd => ?_)
  rotate_left
  -- a number
  · have hd := i3.mp cd
    rw [if_pos hd]
    have hE : digE (σ.2.2 3) n (n + 1) q ≤ n := digE_le _ _ _ _ hq
    have hG : q ≤ digE (σ.2.2 3) n (n + 1) q := digE_ge _ _ _ _
    show Tm (fun k => x_take k 11 L s) _
    rw [← self]
    refine dig_loop sn L _ (n + 1) q (by omega) hq ?_
    rw [hT]
    generalize digE (σ.2.2 3) n (n + 1) q = e at hE hG ⊢
    have last : ∀ (x : Int32) (M : Nat → Int32), M 100 = x → Tm (fun k => x_take k 14 M (mAt s e)) (mTook σ q (x, σ.1 7, e)) := fun x M hx => by
      refine Tm_suc (fun k => by rw [x_take]) ?_
      rw [hx]
      refine fin _ _ _ rfl ?_ ?_ ?_ (fun j a b d => ?_)
      · show upd (mAt s e).1 6 x 5 = _; rw [upd_other (by decide), mAt_at]
      · show upd (mAt s e).1 6 x 6 = x; exact upd_same
      · show upd (mAt s e).1 6 x 7 = _; rw [upd_other (by decide), mAt_o (by decide)]; exact so 7 (by decide) (by decide)
      · show upd (mAt s e).1 6 x j = _; rw [upd_other b, mAt_o a]
    refine Tm_suc (fun k => by rw [x_take]) ?_
    rw [mAt_at, mAt_o (by decide), s8, n_sub (by omega) hG, show (60 : Int32) = nI 60 from rfl]
    refine Tm_ite (fun c6 => ?_) (fun c6 => ?_)
    · rw [n_le (by omega) (by omega)] at c6
      rw [if_pos c6]
      refine Tm_suc (fun k => by rw [x_take]) ?_
      exact last 2 _ upd_same
    · rw [n_le (by omega) (by omega)] at c6
      rw [if_neg c6]
      exact last 6 _ upd_same
  have hd : ¬ isD (rB (σ.2.2 3) n q) := fun h => i3.mpr h cd
  rw [if_neg hd]
  show Tm (fun k => x_take k 15 L s) _
  refine Tm_suc (fun k => by rw [x_take]) ?_
  rw [s5]
  refine Tm_ob (s_byteAt sn (p := q) (by omega) upd_same) (fun r1 h1 => ?_)
  subst h1
  show Tm (fun k => if rB (s.2.2 3) n q = 34 then _ else _) _
  rw [hT]
  refine Tm_ite (fun cs => ?_) (fun cs => ?_)
  -- a string
  · rw [if_pos cs]
    have hqn : q + 1 ≤ n := by
      by_cases h : q < n
      · omega
      · rw [rB_out (by omega)] at cs; exact absurd cs (by decide)
    have hE : strE (σ.2.2 3) n (n + 1) (q + 1) ≤ n := strE_le _ _ _ _ hqn
    have hG : q + 1 ≤ strE (σ.2.2 3) n (n + 1) (q + 1) := strE_ge _ _ _ _
    show Tm (fun k => x_take k 16 L (upd s.1 5 (s.1 5 + 1), s.2.1, s.2.2)) _
    have e0 : ((upd s.1 5 (s.1 5 + 1), s.2.1, s.2.2) : MS) = mAt s (q + 1) := by rw [s5, n_add1]; rfl
    rw [e0]
    refine str_loop sn L _ (n + 1) (q + 1) (by omega) hqn ?_
    rw [hT]
    generalize strE (σ.2.2 3) n (n + 1) (q + 1) = e at hE hG ⊢
    have h4 : (mAt s e).1 4 = nI n := (mAt_mN sn).1
    -- behind it: en says whether the end was found
    have nine : ∀ (x : Int32) (M : Nat → Int32), M 100 = x → (¬ x = 0 ↔ (e < n ∧ σ.2.2 3 e = 34)) → (x = 0 ∨ x = 1) → Tm (fun k => x_take k 19 M (mAt s e)) (mTook σ q (if (e < n ∧ σ.2.2 3 e = 34) ∧ e - q - 1 ≤ 100 then 3 else 6, σ.1 7, e + (if e < n ∧ σ.2.2 3 e = 34 then 1 else 0))) := by
      intro x M hx hiff h01
      -- 21 on
      have tail : ∀ (y : Int32) (K : Nat → Int32), K 100 = y → K 1 = x → Tm (fun k => x_take k 21 K (mAt s e)) (mTook σ q (y, σ.1 7, e + (if e < n ∧ σ.2.2 3 e = 34 then 1 else 0))) := by
        intro y K hy h1
        refine Tm_suc (fun k => by rw [x_take]) ?_
        rw [hy]
        refine Tm_suc (fun k => by rw [x_take]) ?_
        show Tm (fun k => if K 1 = 0 then x_take k 23 (upd K 100 (upd (mAt s e).1 6 y 5)) _ else x_take k 24 (upd (upd K 100 1) 101 (upd (mAt s e).1 6 y 5)) _) _
        have v5 : upd (mAt s e).1 6 y 5 = nI e := by rw [upd_other (by decide), mAt_at]
        rw [v5, h1]
        have done : ∀ (z : Nat) (N : Nat → Int32), N 101 = nI e → N 100 = nI z → z ≤ 1 → Tm (fun k => x_take k 24 N (upd (mAt s e).1 6 y, s.2.1, s.2.2)) (mTook σ q (y, σ.1 7, e + z)) := by
          intro z N g1 g0 hz
          refine Tm_suc (fun k => by rw [x_take]) ?_
          rw [g1, g0, show nI e + nI z = nI (e + z) from (Int32.ofNat_add e z).symm]
          refine fin _ _ _ rfl ?_ ?_ ?_ (fun j a b d => ?_)
          · show upd (upd (mAt s e).1 6 y) 5 (nI (e + z)) 5 = _; exact upd_same
          · show upd (upd (mAt s e).1 6 y) 5 (nI (e + z)) 6 = _; rw [upd_other (by decide), upd_same]
          · show upd (upd (mAt s e).1 6 y) 5 (nI (e + z)) 7 = _; rw [upd_other (by decide), upd_other (by decide), mAt_o (by decide)]; exact so 7 (by decide) (by decide)
          · show upd (upd (mAt s e).1 6 y) 5 (nI (e + z)) j = _; rw [upd_other a, upd_other b, mAt_o a]
        refine Tm_ite (fun cx => ?_) (fun cx => ?_)
        · rw [if_neg (fun h => hiff.mpr h cx)]
          refine Tm_suc (fun k => by rw [x_take]) ?_
          exact done 0 _ (by rw [upd_same, upd_same]) (by rw [upd_other (by decide), upd_same]; rfl) (by omega)
        · rw [if_pos (hiff.mp cx)]
          exact done 1 _ upd_same (by rw [upd_other (by decide), upd_same]; rfl) (by omega)
      refine Tm_suc (fun k => by rw [x_take]) ?_
      rw [hx]
      refine Tm_ite (fun cx => ?_) (fun cx => ?_)
      · rw [if_neg (fun h => hiff.mpr h.1 cx)]
        refine Tm_suc (fun k => by rw [x_take]) ?_
        exact tail 6 _ upd_same (by rw [upd_other (by decide), upd_same])
      · rw [mAt_at, mAt_o (by decide), s8, n_sub (by omega) (by omega), show nI (e - q) - 1 = nI (e - q - 1) from n_sub (q := 1) (by omega) (by omega), show (100 : Int32) = nI 100 from rfl]
        refine Tm_ite (fun c6 => ?_) (fun c6 => ?_)
        · rw [n_lt (by omega) (by omega)] at c6
          rw [if_neg (fun h => by omega)]
          refine Tm_suc (fun k => by rw [x_take]) ?_
          exact tail 6 _ upd_same (by rw [upd_other (by decide), upd_same])
        · rw [n_lt (by omega) (by omega)] at c6
          rw [if_pos ⟨hiff.mp cx, by omega⟩]
          exact tail 3 _ upd_same (by rw [upd_other (by decide), upd_same])
    have no : ¬ (e < n ∧ σ.2.2 3 e = 34) → Tm (fun k => x_take k 18 L (mAt s e)) (mTook σ q (if (e < n ∧ σ.2.2 3 e = 34) ∧ e - q - 1 ≤ 100 then 3 else 6, σ.1 7, e + (if e < n ∧ σ.2.2 3 e = 34 then 1 else 0))) := fun h => by
      refine Tm_suc (fun k => by rw [x_take]) ?_
      exact nine 0 _ upd_same ⟨fun g => absurd rfl g, fun g => absurd g h⟩ (Or.inl rfl)
    refine Tm_suc (fun k => by rw [x_take]) ?_
    rw [h4, mAt_at]
    refine Tm_ite (fun ce => ?_) (fun ce => ?_)
    · rw [n_le (by omega) (by omega)] at ce; exact no (by omega)
    · rw [n_le (by omega) (by omega)] at ce
      refine Tm_chk (n_in (by omega) (by omega)) ?_
      rw [n_cl (p := e) (by omega)]
      show Tm (fun k => if s.2.2 3 e = 34 then _ else _) _
      rw [hT]
      refine Tm_ite (fun c34 => ?_) (fun c34 => no (fun h => c34 h.2))
      exact nine 1 _ upd_same ⟨fun _ => ⟨by omega, c34⟩, fun _ => by decide⟩ (Or.inr rfl)
  -- a sign
  rw [if_neg cs]
  show Tm (fun k => x_take k 25 L s) _
  refine Tm_suc (fun k => by rw [x_take]) ?_
  rw [s5]
  refine Tm_ob (s_byteAt sn (p := q) (by omega) upd_same) (fun r1 h1 => ?_)
  subst h1
  show Tm (fun k => ob (x_byteAt k 0 (upd (fun _ => 0) 1 (s.1 5 + 1)) s) _) _
  rw [s5, n_add1]
  refine Tm_ob (s_byteAt sn (p := q + 1) (by omega) upd_same) (fun r4 h4 => ?_)
  subst h4
  refine Tm_ob (s_sign _ _) (fun r5 h5 => ?_)
  subst h5
  show Tm (fun k => x_take k 26 L (upd s.1 7 (signF (upd (upd (fun _ => 0) 0 (rB (s.2.2 3) n q)) 1 (rB (s.2.2 3) n (q + 1)) 0) (upd (upd (fun _ => 0) 0 (rB (s.2.2 3) n q)) 1 (rB (s.2.2 3) n (q + 1)) 1)), s.2.1, s.2.2)) _
  rw [upd_same, upd_other (by decide), upd_same, hT]
  generalize signF (rB (σ.2.2 3) n q) (rB (σ.2.2 3) n (q + 1)) = sg
  have v7 : upd s.1 7 sg 7 = sg := upd_same
  -- 28 on
  have tail : ∀ (y : Int32) (K : Nat → Int32), K 100 = y → Tm (fun k => x_take k 28 K (upd s.1 7 sg, s.2.1, s.2.2)) (mTook σ q (y, sg, q + (if sg = 1 ∨ sg = 5 ∨ sg = 16 ∨ sg = 18 ∨ sg = 20 ∨ sg = 22 then 2 else 1))) := by
    intro y K hy
    refine Tm_suc (fun k => by rw [x_take]) ?_
    rw [hy]
    have w7 : upd (upd s.1 7 sg) 6 y 7 = sg := by rw [upd_other (by decide), upd_same]
    have w5 : upd (upd s.1 7 sg) 6 y 5 = nI q := by rw [upd_other (by decide), upd_other (by decide)]; exact s5
    have done : ∀ (z : Nat) (N : Nat → Int32), N 101 = nI q → N 100 = nI z → Tm (fun k => x_take k 32 N (upd (upd s.1 7 sg) 6 y, s.2.1, s.2.2)) (mTook σ q (y, sg, q + z)) := by
      intro z N g1 g0
      refine Tm_suc (fun k => by rw [x_take]) ?_
      rw [g1, g0, show nI q + nI z = nI (q + z) from (Int32.ofNat_add q z).symm]
      refine fin _ _ _ rfl ?_ ?_ ?_ (fun j a b d => ?_)
      · show upd (upd (upd s.1 7 sg) 6 y) 5 (nI (q + z)) 5 = _; exact upd_same
      · show upd (upd (upd s.1 7 sg) 6 y) 5 (nI (q + z)) 6 = _; rw [upd_other (by decide), upd_same]
      · show upd (upd (upd s.1 7 sg) 6 y) 5 (nI (q + z)) 7 = _; rw [upd_other (by decide)]; exact w7
      · show upd (upd (upd s.1 7 sg) 6 y) 5 (nI (q + z)) j = _; rw [upd_other a, upd_other b, upd_other d]
    have two : ∀ N : Nat → Int32, N 100 = nI q → (sg = 1 ∨ sg = 5 ∨ sg = 16 ∨ sg = 18 ∨ sg = 20 ∨ sg = 22) → Tm (fun k => x_take k 30 N (upd (upd s.1 7 sg) 6 y, s.2.1, s.2.2)) (mTook σ q (y, sg, q + (if sg = 1 ∨ sg = 5 ∨ sg = 16 ∨ sg = 18 ∨ sg = 20 ∨ sg = 22 then 2 else 1))) := fun N h0 h => by
      rw [if_pos h]
      refine Tm_suc (fun k => by rw [x_take]) ?_
      exact done 2 _ (by rw [upd_same]; exact h0) (by rw [upd_other (by decide), upd_same]; rfl)
    refine Tm_suc (fun k => by rw [x_take]) ?_
    show Tm (fun k => if upd (upd s.1 7 sg) 6 y 7 = 1 then x_take k 30 (upd K 100 (upd (upd s.1 7 sg) 6 y 5)) _ else if upd (upd s.1 7 sg) 6 y 7 = 5 then x_take k 30 (upd K 100 (upd (upd s.1 7 sg) 6 y 5)) _ else if upd (upd s.1 7 sg) 6 y 7 = 16 then x_take k 30 (upd K 100 (upd (upd s.1 7 sg) 6 y 5)) _ else if upd (upd s.1 7 sg) 6 y 7 = 18 then x_take k 30 (upd K 100 (upd (upd s.1 7 sg) 6 y 5)) _ else if upd (upd s.1 7 sg) 6 y 7 = 20 then x_take k 30 (upd K 100 (upd (upd s.1 7 sg) 6 y 5)) _ else if upd (upd s.1 7 sg) 6 y 7 = 22 then x_take k 30 (upd K 100 (upd (upd s.1 7 sg) 6 y 5)) _ else x_take k 31 (upd K 100 (upd (upd s.1 7 sg) 6 y 5)) _) _
    rw [w7, w5]
    refine Tm_ite (fun d => two _ upd_same (Or.inl d)) (fun d1 => ?_)
    refine Tm_ite (fun d => two _ upd_same (Or.inr (Or.inl d))) (fun d2 => ?_)
    refine Tm_ite (fun d => two _ upd_same (Or.inr (Or.inr (Or.inl d)))) (fun d3 => ?_)
    refine Tm_ite (fun d => two _ upd_same (Or.inr (Or.inr (Or.inr (Or.inl d))))) (fun d4 => ?_)
    refine Tm_ite (fun d => two _ upd_same (Or.inr (Or.inr (Or.inr (Or.inr (Or.inl d)))))) (fun d5 => ?_)
    refine Tm_ite (fun d => two _ upd_same (Or.inr (Or.inr (Or.inr (Or.inr (Or.inr d)))))) (fun d6 => ?_)
    rw [if_neg (fun h => h.elim d1 (fun h => h.elim d2 (fun h => h.elim d3 (fun h => h.elim d4 (fun h => h.elim d5 d6)))))]
    refine Tm_suc (fun k => by rw [x_take]) ?_
    exact done 1 _ (by rw [upd_same, upd_same]) (by rw [upd_other (by decide), upd_same]; rfl)
  refine Tm_suc (fun k => by rw [x_take]) ?_
  show Tm (fun k => if upd s.1 7 sg 7 = 0 then _ else _) _
  rw [v7]
  refine Tm_ite (fun c0 => ?_) (fun c0 => ?_)
  · rw [if_pos c0]; exact tail 6 _ upd_same
  · rw [if_neg c0]
    refine Tm_suc (fun k => by rw [x_take]) ?_
    exact tail 4 _ upd_same
end JnS10
