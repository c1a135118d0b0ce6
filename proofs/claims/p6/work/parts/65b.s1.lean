/-! Int32 as whole numbers. -/
theorem i_lt {x y : Int32} : x < y ↔ x.toInt < y.toInt := Int32.lt_iff_toInt_lt
theorem i_le {x y : Int32} : x ≤ y ↔ x.toInt ≤ y.toInt := Int32.le_iff_toInt_le
theorem i_eq {x y : Int32} : x = y ↔ x.toInt = y.toInt := Int32.toInt_inj.symm
theorem i_bd (x : Int32) : -2147483648 ≤ x.toInt ∧ x.toInt ≤ 2147483647 := ⟨Int32.le_toInt x, by have := Int32.toInt_lt x; omega⟩
theorem i_nat (x : Int32) : (x.toNatClampNeg : Int) = if 0 ≤ x.toInt then x.toInt else 0 := by
  show ((x.toInt.toNat : Nat) : Int) = _
  by_cases h : 0 ≤ x.toInt
  · rw [if_pos h]; omega
  · rw [if_neg h]; omega
theorem i_clamp {x : Int32} (h : 0 ≤ x.toInt) : (x.toNatClampNeg : Int) = x.toInt := by rw [i_nat, if_pos h]
theorem i_add {x y : Int32} (h1 : -2147483648 ≤ x.toInt + y.toInt) (h2 : x.toInt + y.toInt ≤ 2147483647) : (x + y).toInt = x.toInt + y.toInt := by
  rw [Int32.toInt_add]
  exact Int.bmod_eq_of_le (by omega) (by omega)
theorem i_sub {x y : Int32} (h1 : -2147483648 ≤ x.toInt - y.toInt) (h2 : x.toInt - y.toInt ≤ 2147483647) : (x - y).toInt = x.toInt - y.toInt := by
  rw [Int32.toInt_sub]
  exact Int.bmod_eq_of_le (by omega) (by omega)
theorem i_mul {x y : Int32} (h1 : -2147483648 ≤ x.toInt * y.toInt) (h2 : x.toInt * y.toInt ≤ 2147483647) : (x * y).toInt = x.toInt * y.toInt := by
  rw [Int32.toInt_mul]
  exact Int.bmod_eq_of_le (by omega) (by omega)
theorem i_ofNat {n : Nat} (h : n < 2147483648) : (Int32.ofNat n).toInt = n := Int32.toInt_ofNat_of_lt h
theorem i_in {i : Int32} {n : Nat} (h0 : 0 ≤ i.toInt) (h1 : i.toInt < n) : ¬ (i < 0 ∨ n ≤ i.toNatClampNeg) := by
  intro h
  have e := i_clamp h0
  rcases h with h | h
  · rw [i_lt] at h; have : (0 : Int32).toInt = 0 := rfl; omega
  · omega
theorem i_c0 : (0 : Int32).toInt = 0 := rfl
theorem i_c1 : (1 : Int32).toInt = 1 := rfl
theorem upd_same {f : Nat → Int32} {k : Nat} {x : Int32} : upd f k x k = x := if_pos rfl
theorem upd_other {f : Nat → Int32} {k j : Nat} {x : Int32} (h : j ≠ k) : upd f k x j = f j := if_neg h
theorem updG_same {f : Nat → Nat → Int32} {k : Nat} {x : Nat → Int32} : updG f k x k = x := if_pos rfl
theorem updG_other {f : Nat → Nat → Int32} {k j : Nat} {x : Nat → Int32} (h : j ≠ k) : updG f k x j = f j := if_neg h
/-! feed of the reference. -/
/-- byte j of the five numbers -/
def wd (L : Nat → Int32) (j : Nat) : Int32 := L (1 + j / 4)
def by_ (x : Int32) (i : Int32) : Int32 := (x.toUInt32 >>> ((24 - (i - i / 4 * 4) * 8).toUInt32 &&& Int32.toUInt32 31)).toInt32 &&& 255
/-- the tape of the reference with n bytes of L behind it -/
def mTape (τ : MS) (L : Nat → Int32) : Nat → MS
  | 0 => τ
  | n + 1 => let s := mTape τ L n
    (upd s.1 4 (s.1 4 + 1), s.2.1, updG s.2.2 3 (upd (s.2.2 3) (s.1 4).toNatClampNeg (by_ (wd L n) (nI n))))
theorem mTape_len (τ : MS) (L : Nat → Int32) (h0 : 0 ≤ (τ.1 4).toInt) : ∀ n : Nat, (τ.1 4).toInt + n ≤ 2147483647 → ((mTape τ L n).1 4).toInt = (τ.1 4).toInt + n
  | 0, _ => by show (τ.1 4).toInt = _; omega
  | n + 1, h => by
    have ih := mTape_len τ L h0 n (by omega)
    show (upd (mTape τ L n).1 4 ((mTape τ L n).1 4 + 1) 4).toInt = _
    rw [upd_same, i_add] <;> rw [i_c1] <;> omega
theorem feed_loop (L0 : Nat → Int32) (τ : MS) (h0 : 0 ≤ (τ.1 4).toInt) (h1 : (τ.1 4).toInt + 20 ≤ 32768) : ∀ (m n : Nat) (L : Nat → Int32), n + m = 20 → L 6 = nI n → (∀ j, 1 ≤ j → j ≤ 5 → L j = L0 j) → Tm (fun k => x_feed k 4 L (mTape τ L0 n)) (fun r => r = ((mTape τ L0 20).1 4, mTape τ L0 20)) := by
  intro m
  induction m with
  | zero =>
    intro n L hn h6 hL
    obtain rfl : n = 20 := by omega
    refine Tm_suc (fun k => by rw [x_feed]) ?_
    refine Tm_ite (fun c => ?_) (fun c => absurd (by rw [h6]; decide) c)
    refine Tm_suc (fun k => by rw [x_feed]) ?_
    exact Tm_some rfl
  | succ m ih =>
    intro n L hn h6 hL
    have hlen := mTape_len τ L0 h0 n (by omega)
    have h6i : (L 6).toInt = n := by rw [h6]; exact i_ofNat (by omega)
    -- the blocks behind the choice of the word
    have tail : ∀ L1 : Nat → Int32, L1 100 = wd L0 n → L1 6 = nI n → (∀ j, 1 ≤ j → j ≤ 5 → L1 j = L0 j) → Tm (fun k => x_feed k 9 L1 (mTape τ L0 n)) (fun r => r = ((mTape τ L0 20).1 4, mTape τ L0 20)) := by
      intro L1 hw h6 hL
      refine Tm_suc (fun k => by rw [x_feed]) ?_
      refine Tm_chk0 (by decide) ?_
      refine Tm_chk (i_in (by omega) (by omega)) ?_
      refine Tm_suc (fun k => by rw [x_feed]) ?_
      refine Tm_suc (fun k => by rw [x_feed]) ?_
      have := ih (n + 1) (upd (upd L1 7 (L1 100)) 6 ((upd L1 7 (L1 100)) 6 + 1)) (by omega) (by rw [upd_same, upd_other (by decide), h6, nI_succ]) (fun j a b => by rw [upd_other (by omega), upd_other (by omega)]; exact hL j a b)
      rw [hw, h6]
      rw [hw] at this
      exact this
    refine Tm_suc (fun k => by rw [x_feed]) ?_
    refine Tm_ite (fun c => ?_) (fun c => ?_)
    · rw [i_le, h6i] at c; have : (20 : Int32).toInt = 20 := rfl; omega
    have hw : ∀ j : Nat, 1 ≤ j → j ≤ 5 → n / 4 + 1 = j → wd L0 n = L j := fun j a b e => by
      rw [hL j a b]; show L0 (1 + n / 4) = _; rw [Nat.add_comm, e]
    have k4 : (4 : Int32).toInt = 4 := rfl
    have k8 : (8 : Int32).toInt = 8 := rfl
    have k12 : (12 : Int32).toInt = 12 := rfl
    have k16 : (16 : Int32).toInt = 16 := rfl
    have up : ∀ x : Int32, (upd L 100 x) 6 = nI n ∧ ∀ j, 1 ≤ j → j ≤ 5 → (upd L 100 x) j = L0 j := fun x => ⟨by rw [upd_other (by decide)]; exact h6, fun j a b => by rw [upd_other (by omega)]; exact hL j a b⟩
    refine Tm_ite (fun c4 => ?_) (fun c4 => ?_)
    · rw [i_le, h6i, k4] at c4
      refine Tm_suc (fun k => by rw [x_feed]) ?_
      refine Tm_ite (fun c8 => ?_) (fun c8 => ?_)
      · rw [i_le, h6i, k8] at c8
        refine Tm_suc (fun k => by rw [x_feed]) ?_
        refine Tm_ite (fun c12 => ?_) (fun c12 => ?_)
        · rw [i_le, h6i, k12] at c12
          refine Tm_suc (fun k => by rw [x_feed]) ?_
          refine Tm_ite (fun c16 => ?_) (fun c16 => ?_)
          · rw [i_le, h6i, k16] at c16
            refine Tm_suc (fun k => by rw [x_feed]) ?_
            exact tail _ (by rw [upd_same]; exact (hw 5 (by omega) (by omega) (by omega)).symm) (up _).1 (up _).2
          · rw [i_le, h6i, k16] at c16
            exact tail _ (by rw [upd_same]; exact (hw 4 (by omega) (by omega) (by omega)).symm) (up _).1 (up _).2
        · rw [i_le, h6i, k12] at c12
          exact tail _ (by rw [upd_same]; exact (hw 3 (by omega) (by omega) (by omega)).symm) (up _).1 (up _).2
      · rw [i_le, h6i, k8] at c8
        exact tail _ (by rw [upd_same]; exact (hw 2 (by omega) (by omega) (by omega)).symm) (up _).1 (up _).2
    · rw [i_le, h6i, k4] at c4
      exact tail _ (by rw [upd_same]; exact (hw 1 (by omega) (by omega) (by omega)).symm) (up _).1 (up _).2
/-- feed: what it throws is told in field 2 -/
theorem s_feed (L : Nat → Int32) (τ : MS) (h0 : 0 ≤ (τ.1 4).toInt) (h1 : (τ.1 4).toInt ≤ 32768) : Tm (fun k => x_feed k 0 L τ) (fun r => if (τ.1 4).toInt + 20 ≤ 32768 then r.2 = mTape (upd τ.1 2 0, τ.2.1, τ.2.2) L 20 ∧ r.1 = r.2.1 4 else r = (0, (upd τ.1 2 1, τ.2.1, τ.2.2))) := by
  have k20 : (20 : Int32).toInt = 20 := rfl
  have kM : (32768 : Int32).toInt = 32768 := rfl
  have hs : (τ.1 4 + 20).toInt = (τ.1 4).toInt + 20 := by rw [i_add] <;> rw [k20] <;> omega
  refine Tm_suc (fun k => by rw [x_feed]) ?_
  refine Tm_ite (fun c => ?_) (fun c => ?_)
  · rw [i_le, hs, kM] at c
    refine Tm_suc (fun k => by rw [x_feed]) ?_
    refine Tm_suc (fun k => by rw [x_feed]) ?_
    refine Tm_ob (s_good _ _) (fun r hr => ?_)
    subst hr
    refine Tm_ite (fun c1 => absurd c1 (by rw [upd_same, upd_same]; exact (by decide : ¬ (1 : Int32) = 0))) (fun c1 => ?_)
    refine Tm_suc (fun k => by rw [x_feed]) ?_
    rw [upd_same, upd_same]
    have h4 : (upd τ.1 2 0) 4 = τ.1 4 := upd_other (by decide)
    refine Tm_mono (feed_loop L (upd τ.1 2 0, τ.2.1, τ.2.2) (by show 0 ≤ ((upd τ.1 2 0) 4).toInt; rw [h4]; exact h0) (by show ((upd τ.1 2 0) 4).toInt + 20 ≤ _; rw [h4]; exact c) 20 0 _ rfl rfl (fun j a b => by rw [upd_other (by omega), upd_other (by omega)])) (fun r hr => ?_)
    subst hr
    rw [if_pos c]
    exact ⟨rfl, rfl⟩
  · rw [i_le, hs, kM] at c
    refine Tm_suc (fun k => by rw [x_feed]) ?_
    refine Tm_ob (s_good _ _) (fun r hr => ?_)
    subst hr
    refine Tm_ite (fun c1 => ?_) (fun c1 => absurd (by rw [upd_same, upd_same]; exact (rfl : (0 : Int32) = 0)) c1)
    refine Tm_some ?_
    rw [if_neg c, upd_same, upd_same]
