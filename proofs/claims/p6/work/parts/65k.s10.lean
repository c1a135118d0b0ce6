theorem n_sub {p q : Nat} (hp : p < 2147483648) (hq : q ≤ p) : nI p - nI q = nI (p - q) := by
  rw [i_eq, i_sub] <;> rw [n_int hp, n_int (by omega)]
  · rw [n_int (by omega)]; omega
  · omega
  · omega
theorem s_take {σ : MS} {n p : Nat} (hn : mN σ n) (hW : σ.2.2 1 = mT mWords 264) (h5 : σ.1 5 = nI p) (hp : p ≤ n) (L : Nat → Int32) : Tm (fun k => x_take k 0 L σ) (mTook σ (sk (σ.2.2 3) n p) (tokM (σ.1 7) (σ.2.2 3) n (sk (σ.2.2 3) n p))) := by
  have hN := hn.2
  have hq : sk (σ.2.2 3) n p ≤ n := skE_le _ _ _ _ hp
  refine Tm_suc (fun k => by rw [x_take]) ?_
  refine Tm_ob (s_skip hn h5 hp _) (fun r hr => ?_)
  subst hr
  generalize sk (σ.2.2 3) n p = q at hq ⊢
  show Tm (fun k => x_take k 1 L (upd (mAt σ q).1 8 ((mAt σ q).1 5), σ.2.1, σ.2.2)) _
  rw [mAt_at]
  generalize hs : ((upd (mAt σ q).1 8 (nI q), σ.2.1, σ.2.2) : MS) = s
  have s2 : s.2 = σ.2 := by rw [← hs]
  have s22 : s.2.2 = σ.2.2 := by rw [← hs]
  have s5 : s.1 5 = nI q := by rw [← hs]; show upd (mAt σ q).1 8 (nI q) 5 = _; rw [upd_other (by decide), mAt_at]
  have s8 : s.1 8 = nI q := by rw [← hs]; show upd (mAt σ q).1 8 (nI q) 8 = _; exact upd_same
  have so : ∀ j, j ≠ 5 → j ≠ 8 → s.1 j = σ.1 j := fun j a b => by rw [← hs]; show upd (mAt σ q).1 8 (nI q) j = _; rw [upd_other b, mAt_o a]
  have sn : mN s n := ⟨by rw [so 4 (by decide) (by decide)]; exact hn.1, hN⟩
  have self : mAt s q = s := mAt_self s5
  have hT : s.2.2 3 = σ.2.2 3 := by rw [s22]
  clear hs
  -- the end: from a state that is s but for fields 5, 6, 7
  have fin : ∀ (v : MS) (t : Int32 × Int32 × Nat) (M : Nat → Int32), v.2 = s.2 → v.1 5 = nI t.2.2 → v.1 6 = t.1 → v.1 7 = t.2.1 → (∀ j, j ≠ 5 → j ≠ 6 → j ≠ 7 → v.1 j = s.1 j) → Tm (fun k => x_take k 33 M v) (mTook σ q t) := by
    intro v t M v2 v5 v6 v7 vo
    exact take_end M (v2.trans s2) v5 v6 v7 (by rw [vo 8 (by decide) (by decide) (by decide)]; exact s8) (fun j hj => by rw [vo j (by omega) (by omega) (by omega), so j (by omega) (by omega)])
  refine Tm_suc (fun k => by rw [x_take]) ?_
  rw [s5, sn.1]
  unfold tokM
  refine Tm_ite (fun c => ?_) (fun c => ?_)
  · rw [n_eq (by omega) (by omega)] at c
    rw [if_pos c]
    refine fin _ _ _ rfl ?_ ?_ ?_ (fun j a b d => upd_other b)
    · show upd s.1 6 0 5 = _; rw [upd_other (by decide)]; exact s5
    · show upd s.1 6 0 6 = 0; exact upd_same
    · show upd s.1 6 0 7 = _; rw [upd_other (by decide)]; exact so 7 (by decide) (by decide)
  rw [n_eq (by omega) (by omega)] at c
  rw [if_neg c]
  refine Tm_suc (fun k => by rw [x_take]) ?_
  rw [s5]
  refine Tm_ob (s_byteAt sn (p := q) (by omega) upd_same) (fun r1 h1 => ?_)
  subst h1
  refine Tm_ob (s_isLetter _ _) (fun r2 h2 => ?_)
  obtain ⟨e2, i2⟩ := h2
  rw [upd_same] at i2
  have i2 : ¬ r2.1 = 0 ↔ isL (rB (σ.2.2 3) n q) := by rw [← hT]; exact i2
  rw [e2]
  refine Tm_ite (fun cl => ?_) (fun cl => ?_)
  rotate_left
  -- a name
  · have hl := i2.mp cl
    rw [if_pos hl]
    have hE : nameE (σ.2.2 3) n (n + 1) q ≤ n := nameE_le _ _ _ _ hq
    have hG : q ≤ nameE (σ.2.2 3) n (n + 1) q := nameE_ge _ _ _ _
    have hA := nameE_all (σ.2.2 3) n (n + 1) q
    show Tm (fun k => x_take k 3 L s) _
    rw [← self]
    refine name_loop sn L _ (n + 1) q (by omega) hq ?_
    rw [hT]
    generalize nameE (σ.2.2 3) n (n + 1) q = e at hE hG hA ⊢
    refine Tm_suc (fun k => by rw [x_take]) ?_
    rw [mAt_at, mAt_o (by decide), s8]
    refine Tm_ob (s_wordAt (σ := mAt s e) (a := q) (b := e) (by show s.2.2 1 = _; rw [s22]; exact hW) hG (by omega) (fun i a b => ?_) _ (by rw [upd_other (by decide), upd_same]) upd_same) (fun r h => ?_)
    · show ¬ s.2.2 3 i = 32
      rw [hT]
      intro h
      have := hA i a b
      rw [h] at this
      exact absurd this (by decide)
    subst h
    show Tm (fun k => x_take k 6 L (upd (mAt s e).1 7 (wordI (seg (s.2.2 3) q e)), s.2.1, s.2.2)) _
    rw [hT]
    generalize wordI (seg (σ.2.2 3) q e) = wd
    have v5 : upd (mAt s e).1 7 wd 5 = nI e := by rw [upd_other (by decide), mAt_at]
    have v8 : upd (mAt s e).1 7 wd 8 = nI q := by rw [upd_other (by decide), mAt_o (by decide)]; exact s8
    have last : ∀ (x : Int32) (M : Nat → Int32), M 100 = x → Tm (fun k => x_take k 9 M (upd (mAt s e).1 7 wd, s.2.1, s.2.2)) (mTook σ q (x, wd, e)) := fun x M hx => by
      refine Tm_suc (fun k => by rw [x_take]) ?_
      rw [hx]
      refine fin _ _ _ rfl ?_ ?_ ?_ (fun j a b d => ?_)
      · show upd (upd (mAt s e).1 7 wd) 6 x 5 = _; rw [upd_other (by decide)]; exact v5
      · show upd (upd (mAt s e).1 7 wd) 6 x 6 = x; exact upd_same
      · show upd (upd (mAt s e).1 7 wd) 6 x 7 = _; rw [upd_other (by decide), upd_same]
      · show upd (upd (mAt s e).1 7 wd) 6 x j = _; rw [upd_other b, upd_other d, mAt_o a]
    refine Tm_suc (fun k => by rw [x_take]) ?_
    show Tm (fun k => if upd (mAt s e).1 7 wd 5 - upd (mAt s e).1 7 wd 8 ≤ 16 then _ else _) _
    rw [v5, v8, n_sub (by omega) hG, show (16 : Int32) = nI 16 from rfl]
    refine Tm_ite (fun c6 => ?_) (fun c6 => ?_)
    · rw [n_le (by omega) (by omega)] at c6
      rw [if_pos c6]
      refine Tm_suc (fun k => by rw [x_take]) ?_
      show Tm (fun k => if upd (mAt s e).1 7 wd 7 = -1 then _ else _) _
      rw [upd_same]
      refine Tm_ite (fun c7 => ?_) (fun c7 => ?_)
      · rw [if_pos c7]; exact last 1 _ upd_same
      · rw [if_neg c7]
        refine Tm_suc (fun k => by rw [x_take]) ?_
        exact last 5 _ upd_same
    · rw [n_le (by omega) (by omega)] at c6
      rw [if_neg c6]
      exact last 6 _ upd_same
  have hl : ¬ isL (rB (σ.2.2 3) n q) := fun h => i2.mpr h cl
  rw [if_neg hl]
  show Tm (fun k => x_take k 10 L s) _
  refine Tm_suc (fun k => by rw [x_take]) ?_
  rw [s5]
  refine Tm_ob (s_byteAt sn (p := q) (by omega) upd_same) (fun r1 h1 => ?_)
  subst h1
  refine Tm_ob (s_isDigit _ _) (fun r3 h3 => ?_)
  obtain ⟨e3, i3⟩ := h3
  rw [upd_same] at i3
  have i3 : ¬ r3.1 = 0 ↔ isD (rB (σ.2.2 3) n q) := by rw [← hT]; exact i3
  rw [e3]
  refine Tm_ite (fun cd => ?_) (fun cd => ?_)
  rotate_left
  -- a number
  · have hd := i3.mp cd
    rw [if_pos hd]
    have hE : digE (σ.2.2 3) n (n + 1) q ≤ n := digE_le _ _ _ _ hq
    have hG : q ≤ digE (σ.2.2 3) n (n + 1) q := digE_ge _ _ _ _
    show Tm (fun k => x_take k 11 L s) _
    rw [← self]
    refine dig_loop sn L _ (n + 1) q (by omega) hq ?_
    rw [hT]
    generalize digE (σ.2.2 3) n (n + 1) q = e at hE hG ⊢
    have last : ∀ (x : Int32) (M : Nat → Int32), M 100 = x → Tm (fun k => x_take k 14 M (mAt s e)) (mTook σ q (x, σ.1 7, e)) := fun x M hx => by
      refine Tm_suc (fun k => by rw [x_take]) ?_
      rw [hx]
      refine fin _ _ _ rfl ?_ ?_ ?_ (fun j a b d => ?_)
      · show upd (mAt s e).1 6 x 5 = _; rw [upd_other (by decide), mAt_at]
      · show upd (mAt s e).1 6 x 6 = x; exact upd_same
      · show upd (mAt s e).1 6 x 7 = _; rw [upd_other (by decide), mAt_o (by decide)]; exact so 7 (by decide) (by decide)
      · show upd (mAt s e).1 6 x j = _; rw [upd_other b, mAt_o a]
    refine Tm_suc (fun k => by rw [x_take]) ?_
    rw [mAt_at, mAt_o (by decide), s8, n_sub (by omega) hG, show (60 : Int32) = nI 60 from rfl]
    refine Tm_ite (fun c6 => ?_) (fun c6 => ?_)
    · rw [n_le (by omega) (by omega)] at c6
      rw [if_pos c6]
      refine Tm_suc (fun k => by rw [x_take]) ?_
      exact last 2 _ upd_same
    · rw [n_le (by omega) (by omega)] at c6
      rw [if_neg c6]
      exact last 6 _ upd_same
  have hd : ¬ isD (rB (σ.2.2 3) n q) := fun h => i3.mpr h cd
  rw [if_neg hd]
  show Tm (fun k => x_take k 15 L s) _
  refine Tm_suc (fun k => by rw [x_take]) ?_
  rw [s5]
  refine Tm_ob (s_byteAt sn (p := q) (by omega) upd_same) (fun r1 h1 => ?_)
  subst h1
  show Tm (fun k => if rB (s.2.2 3) n q = 34 then _ else _) _
  rw [hT]
  refine Tm_ite (fun cs => ?_) (fun cs => ?_)
  -- a string
  · rw [if_pos cs]
    have hqn : q + 1 ≤ n := by
      by_cases h : q < n
      · omega
      · rw [rB_out (by omega)] at cs; exact absurd cs (by decide)
    have hE : strE (σ.2.2 3) n (n + 1) (q + 1) ≤ n := strE_le _ _ _ _ hqn
    have hG : q + 1 ≤ strE (σ.2.2 3) n (n + 1) (q + 1) := strE_ge _ _ _ _
    show Tm (fun k => x_take k 16 L (upd s.1 5 (s.1 5 + 1), s.2.1, s.2.2)) _
    have e0 : ((upd s.1 5 (s.1 5 + 1), s.2.1, s.2.2) : MS) = mAt s (q + 1) := by rw [s5, n_add1]; rfl
    rw [e0]
    refine str_loop sn L _ (n + 1) (q + 1) (by omega) hqn ?_
    rw [hT]
    generalize strE (σ.2.2 3) n (n + 1) (q + 1) = e at hE hG ⊢
    have h4 : (mAt s e).1 4 = nI n := (mAt_mN sn).1
    -- behind it: en says whether the end was found
    have nine : ∀ (x : Int32) (M : Nat → Int32), M 100 = x → (¬ x = 0 ↔ (e < n ∧ σ.2.2 3 e = 34)) → (x = 0 ∨ x = 1) → Tm (fun k => x_take k 19 M (mAt s e)) (mTook σ q (if (e < n ∧ σ.2.2 3 e = 34) ∧ e - q - 1 ≤ 100 then 3 else 6, σ.1 7, e + (if e < n ∧ σ.2.2 3 e = 34 then 1 else 0))) := by
      intro x M hx hiff h01
      -- 21 on
      have tail : ∀ (y : Int32) (K : Nat → Int32), K 100 = y → K 1 = x → Tm (fun k => x_take k 21 K (mAt s e)) (mTook σ q (y, σ.1 7, e + (if e < n ∧ σ.2.2 3 e = 34 then 1 else 0))) := by
        intro y K hy h1
        refine Tm_suc (fun k => by rw [x_take]) ?_
        rw [hy]
        refine Tm_suc (fun k => by rw [x_take]) ?_
        show Tm (fun k => if K 1 = 0 then x_take k 23 (upd K 100 (upd (mAt s e).1 6 y 5)) _ else x_take k 24 (upd (upd K 100 1) 101 (upd (mAt s e).1 6 y 5)) _) _
        have v5 : upd (mAt s e).1 6 y 5 = nI e := by rw [upd_other (by decide), mAt_at]
        rw [v5, h1]
        have done : ∀ (z : Nat) (N : Nat → Int32), N 101 = nI e → N 100 = nI z → z ≤ 1 → Tm (fun k => x_take k 24 N (upd (mAt s e).1 6 y, s.2.1, s.2.2)) (mTook σ q (y, σ.1 7, e + z)) := by
          intro z N g1 g0 hz
          refine Tm_suc (fun k => by rw [x_take]) ?_
          rw [g1, g0, show nI e + nI z = nI (e + z) from (Int32.ofNat_add e z).symm]
          refine fin _ _ _ rfl ?_ ?_ ?_ (fun j a b d => ?_)
          · show upd (upd (mAt s e).1 6 y) 5 (nI (e + z)) 5 = _; exact upd_same
          · show upd (upd (mAt s e).1 6 y) 5 (nI (e + z)) 6 = _; rw [upd_other (by decide), upd_same]
          · show upd (upd (mAt s e).1 6 y) 5 (nI (e + z)) 7 = _; rw [upd_other (by decide), upd_other (by decide), mAt_o (by decide)]; exact so 7 (by decide) (by decide)
          · show upd (upd (mAt s e).1 6 y) 5 (nI (e + z)) j = _; rw [upd_other a, upd_other b, mAt_o a]
        refine Tm_ite (fun cx => ?_) (fun cx => ?_)
        · rw [if_neg (fun h => hiff.mpr h cx)]
          refine Tm_suc (fun k => by rw [x_take]) ?_
          exact done 0 _ (by rw [upd_same, upd_same]) (by rw [upd_other (by decide), upd_same]; rfl) (by omega)
        · rw [if_pos (hiff.mp cx)]
          exact done 1 _ upd_same (by rw [upd_other (by decide), upd_same]; rfl) (by omega)
      refine Tm_suc (fun k => by rw [x_take]) ?_
      rw [hx]
      refine Tm_ite (fun cx => ?_) (fun cx => ?_)
      · rw [if_neg (fun h => hiff.mpr h.1 cx)]
        refine Tm_suc (fun k => by rw [x_take]) ?_
        exact tail 6 _ upd_same (by rw [upd_other (by decide), upd_same])
      · rw [mAt_at, mAt_o (by decide), s8, n_sub (by omega) (by omega), show nI (e - q) - 1 = nI (e - q - 1) from n_sub (q := 1) (by omega) (by omega), show (100 : Int32) = nI 100 from rfl]
        refine Tm_ite (fun c6 => ?_) (fun c6 => ?_)
        · rw [n_lt (by omega) (by omega)] at c6
          rw [if_neg (fun h => by omega)]
          refine Tm_suc (fun k => by rw [x_take]) ?_
          exact tail 6 _ upd_same (by rw [upd_other (by decide), upd_same])
        · rw [n_lt (by omega) (by omega)] at c6
          rw [if_pos ⟨hiff.mp cx, by omega⟩]
          exact tail 3 _ upd_same (by rw [upd_other (by decide), upd_same])
    have no : ¬ (e < n ∧ σ.2.2 3 e = 34) → Tm (fun k => x_take k 18 L (mAt s e)) (mTook σ q (if (e < n ∧ σ.2.2 3 e = 34) ∧ e - q - 1 ≤ 100 then 3 else 6, σ.1 7, e + (if e < n ∧ σ.2.2 3 e = 34 then 1 else 0))) := fun h => by
      refine Tm_suc (fun k => by rw [x_take]) ?_
      exact nine 0 _ upd_same ⟨fun g => absurd rfl g, fun g => absurd g h⟩ (Or.inl rfl)
    refine Tm_suc (fun k => by rw [x_take]) ?_
    rw [h4, mAt_at]
    refine Tm_ite (fun ce => ?_) (fun ce => ?_)
    · rw [n_le (by omega) (by omega)] at ce; exact no (by omega)
    · rw [n_le (by omega) (by omega)] at ce
      refine Tm_chk (n_in (by omega) (by omega)) ?_
      rw [n_cl (p := e) (by omega)]
      show Tm (fun k => if s.2.2 3 e = 34 then _ else _) _
      rw [hT]
      refine Tm_ite (fun c34 => ?_) (fun c34 => no (fun h => c34 h.2))
      exact nine 1 _ upd_same ⟨fun _ => ⟨by omega, c34⟩, fun _ => by decide⟩ (Or.inr rfl)
  -- a sign
  rw [if_neg cs]
  show Tm (fun k => x_take k 25 L s) _
  refine Tm_suc (fun k => by rw [x_take]) ?_
  rw [s5]
  refine Tm_ob (s_byteAt sn (p := q) (by omega) upd_same) (fun r1 h1 => ?_)
  subst h1
  show Tm (fun k => ob (x_byteAt k 0 (upd (fun _ => 0) 1 (s.1 5 + 1)) s) _) _
  rw [s5, n_add1]
  refine Tm_ob (s_byteAt sn (p := q + 1) (by omega) upd_same) (fun r4 h4 => ?_)
  subst h4
  refine Tm_ob (s_sign _ _) (fun r5 h5 => ?_)
  subst h5
  show Tm (fun k => x_take k 26 L (upd s.1 7 (signF (upd (upd (fun _ => 0) 0 (rB (s.2.2 3) n q)) 1 (rB (s.2.2 3) n (q + 1)) 0) (upd (upd (fun _ => 0) 0 (rB (s.2.2 3) n q)) 1 (rB (s.2.2 3) n (q + 1)) 1)), s.2.1, s.2.2)) _
  rw [upd_same, upd_other (by decide), upd_same, hT]
  generalize signF (rB (σ.2.2 3) n q) (rB (σ.2.2 3) n (q + 1)) = sg
  have v7 : upd s.1 7 sg 7 = sg := upd_same
  -- 28 on
  have tail : ∀ (y : Int32) (K : Nat → Int32), K 100 = y → Tm (fun k => x_take k 28 K (upd s.1 7 sg, s.2.1, s.2.2)) (mTook σ q (y, sg, q + (if sg = 1 ∨ sg = 5 ∨ sg = 16 ∨ sg = 18 ∨ sg = 20 ∨ sg = 22 then 2 else 1))) := by
    intro y K hy
    refine Tm_suc (fun k => by rw [x_take]) ?_
    rw [hy]
    have w7 : upd (upd s.1 7 sg) 6 y 7 = sg := by rw [upd_other (by decide), upd_same]
    have w5 : upd (upd s.1 7 sg) 6 y 5 = nI q := by rw [upd_other (by decide), upd_other (by decide)]; exact s5
    have done : ∀ (z : Nat) (N : Nat → Int32), N 101 = nI q → N 100 = nI z → Tm (fun k => x_take k 32 N (upd (upd s.1 7 sg) 6 y, s.2.1, s.2.2)) (mTook σ q (y, sg, q + z)) := by
      intro z N g1 g0
      refine Tm_suc (fun k => by rw [x_take]) ?_
      rw [g1, g0, show nI q + nI z = nI (q + z) from (Int32.ofNat_add q z).symm]
      refine fin _ _ _ rfl ?_ ?_ ?_ (fun j a b d => ?_)
      · show upd (upd (upd s.1 7 sg) 6 y) 5 (nI (q + z)) 5 = _; exact upd_same
      · show upd (upd (upd s.1 7 sg) 6 y) 5 (nI (q + z)) 6 = _; rw [upd_other (by decide), upd_same]
      · show upd (upd (upd s.1 7 sg) 6 y) 5 (nI (q + z)) 7 = _; rw [upd_other (by decide)]; exact w7
      · show upd (upd (upd s.1 7 sg) 6 y) 5 (nI (q + z)) j = _; rw [upd_other a, upd_other b, upd_other d]
    have two : ∀ N : Nat → Int32, N 100 = nI q → (sg = 1 ∨ sg = 5 ∨ sg = 16 ∨ sg = 18 ∨ sg = 20 ∨ sg = 22) → Tm (fun k => x_take k 30 N (upd (upd s.1 7 sg) 6 y, s.2.1, s.2.2)) (mTook σ q (y, sg, q + (if sg = 1 ∨ sg = 5 ∨ sg = 16 ∨ sg = 18 ∨ sg = 20 ∨ sg = 22 then 2 else 1))) := fun N h0 h => by
      rw [if_pos h]
      refine Tm_suc (fun k => by rw [x_take]) ?_
      exact done 2 _ (by rw [upd_same]; exact h0) (by rw [upd_other (by decide), upd_same]; rfl)
    refine Tm_suc (fun k => by rw [x_take]) ?_
    show Tm (fun k => if upd (upd s.1 7 sg) 6 y 7 = 1 then x_take k 30 (upd K 100 (upd (upd s.1 7 sg) 6 y 5)) _ else if upd (upd s.1 7 sg) 6 y 7 = 5 then x_take k 30 (upd K 100 (upd (upd s.1 7 sg) 6 y 5)) _ else if upd (upd s.1 7 sg) 6 y 7 = 16 then x_take k 30 (upd K 100 (upd (upd s.1 7 sg) 6 y 5)) _ else if upd (upd s.1 7 sg) 6 y 7 = 18 then x_take k 30 (upd K 100 (upd (upd s.1 7 sg) 6 y 5)) _ else if upd (upd s.1 7 sg) 6 y 7 = 20 then x_take k 30 (upd K 100 (upd (upd s.1 7 sg) 6 y 5)) _ else if upd (upd s.1 7 sg) 6 y 7 = 22 then x_take k 30 (upd K 100 (upd (upd s.1 7 sg) 6 y 5)) _ else x_take k 31 (upd K 100 (upd (upd s.1 7 sg) 6 y 5)) _) _
    rw [w7, w5]
    refine Tm_ite (fun d => two _ upd_same (Or.inl d)) (fun d1 => ?_)
    refine Tm_ite (fun d => two _ upd_same (Or.inr (Or.inl d))) (fun d2 => ?_)
    refine Tm_ite (fun d => two _ upd_same (Or.inr (Or.inr (Or.inl d)))) (fun d3 => ?_)
    refine Tm_ite (fun d => two _ upd_same (Or.inr (Or.inr (Or.inr (Or.inl d))))) (fun d4 => ?_)
    refine Tm_ite (fun d => two _ upd_same (Or.inr (Or.inr (Or.inr (Or.inr (Or.inl d)))))) (fun d5 => ?_)
    refine Tm_ite (fun d => two _ upd_same (Or.inr (Or.inr (Or.inr (Or.inr (Or.inr d)))))) (fun d6 => ?_)
    rw [if_neg (fun h => h.elim d1 (fun h => h.elim d2 (fun h => h.elim d3 (fun h => h.elim d4 (fun h => h.elim d5 d6)))))]
    refine Tm_suc (fun k => by rw [x_take]) ?_
    exact done 1 _ (by rw [upd_same, upd_same]) (by rw [upd_other (by decide), upd_same]; rfl)
  refine Tm_suc (fun k => by rw [x_take]) ?_
  show Tm (fun k => if upd s.1 7 sg 7 = 0 then _ else _) _
  rw [v7]
  refine Tm_ite (fun c0 => ?_) (fun c0 => ?_)
  · rw [if_pos c0]; exact tail 6 _ upd_same
  · rw [if_neg c0]
    refine Tm_suc (fun k => by rw [x_take]) ?_
    exact tail 4 _ upd_same
