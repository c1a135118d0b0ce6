/-! The class: digits as printed: no more than 35 billions, so 316 bytes. -/
section CRQ
variable {g g' g2 : Nat → Prop} {l l' : List Nat} {t t' t2 : Nat} {σ σ' σ2 : CS} {L : LV} {x y i : Int32} {M M' : Nat → Int32}
/-- what printing may write, its length aside -/
def PFc (σ σ' : CS) : Prop := (∀ j, ¬ j = 404 → σ'.1 j = σ.1 j) ∧ σ'.2.1 = σ.2.1 ∧ (∀ k, ¬ ((5 ≤ k ∧ k ≤ 11) ∨ k = 13) → σ'.2.2.1 k = σ.2.2.1 k) ∧ σ'.2.2.2 = σ.2.2.2
theorem PFc_r (σ : CS) : PFc σ σ := ⟨fun _ _ => rfl, rfl, fun _ _ => rfl, rfl⟩
theorem PFc_t (a : PFc σ σ') (b : PFc σ' σ2) : PFc σ σ2 := ⟨fun j hj => (b.1 j hj).trans (a.1 j hj), b.2.1.trans a.2.1, fun k hk => (b.2.2.1 k hk).trans (a.2.2.1 k hk), b.2.2.2.trans a.2.2.2⟩
theorem PFc_W (w : WF σ σ') : PFc σ σ' := ⟨w.1, w.2.1, fun k hk => w.2.2.1 k (fun e => hk (Or.inl e)), w.2.2.2⟩
theorem PFc_F (σ : CS) {k : Nat} (hk : (5 ≤ k ∧ k ≤ 11) ∨ k = 13) (f : Nat → Int32) : PFc σ (uF σ k f) := ⟨fun _ _ => rfl, rfl, fun j hj => if_neg (fun e => hj (by rw [e]; exact hk)), rfl⟩
theorem PFc_A (σ : CS) {k : Nat} (hk : (5 ≤ k ∧ k ≤ 11) ∨ k = 13) (i : Nat) (x : Int32) : PFc σ (uA σ k i x) := PFc_F σ hk _
theorem HQ_P (h : HQ g l t σ) (w : PFc σ σ') : HQ g l t σ' := HQ_fr h (w.1 1 (by decide)) (w.2.2.1 3 (by decide)) (by rw [w.2.2.2])
theorem W2_P (w : PFc σ σ') (h : W2 g σ x) : W2 g σ' x := ⟨h.1, by rw [w.2.2.1 3 (by decide)]; exact h.2⟩
theorem c_writeChunk (hs : uN (L.1 3) ≤ 10391) : Tm (fun k => y_X10_writeChunk__a13 k 0 L σ) (fun r => PFc σ r.2 ∧ uN r.1 ≤ uN (L.1 3) + 9) := by
  have b3 : ∀ (m : Nat) (L' : LV) (σ' : CS), PFc σ σ' → L'.1 3 = L.1 3 → uN (L'.1 4) ≤ 9 → (uN (L'.1 7) + 1 = m ∨ (2147483648 ≤ uN (L'.1 7) ∧ m = 0)) → m ≤ 9 → Tm (fun k => y_X10_writeChunk__a13 k 3 L' σ') (fun r => PFc σ r.2 ∧ uN r.1 ≤ uN (L.1 3) + 9) := by
    intro m
    induction m with
    | zero =>
      intro L' σ' w a3 a4 a7 hm
      refine Tm_suc (fun k => by rw [y_X10_writeChunk__a13]) ?_
      refine Tm_yes (by rw [u_neg]; omega) ?_
      refine Tm_suc (fun k => by rw [y_X10_writeChunk__a13]) ?_
      refine Tm_some ⟨w, ?_⟩
      show uN (L'.1 3 + L'.1 4) ≤ _
      rw [a3, u_add (by omega)]; omega
    | succ m ih =>
      intro L' σ' w a3 a4 a7 hm
      have e : uN (L'.1 3 + L'.1 7) = uN (L.1 3) + uN (L'.1 7) := by rw [a3, u_add (by omega)]
      refine Tm_suc (fun k => by rw [y_X10_writeChunk__a13]) ?_
      refine Tm_ite (fun c => absurd c (by rw [u_neg]; omega)) (fun _ => ?_)
      refine Tm_chk0 (by decide) ?_
      refine Tm_chk (u_in (by omega) (by decide)) ?_
      refine Tm_chk0 (by decide) ?_
      refine ih _ _ (PFc_t w (PFc_A _ (by decide) _ _)) ?_ ?_ ?_ (by omega)
      · exact a3
      · exact a4
      · show uN (L'.1 7 + (-1)) + 1 = m ∨ (2147483648 ≤ uN (L'.1 7 + (-1)) ∧ m = 0)
        by_cases c : uN (L'.1 7) = 0
        · right
          rw [show L'.1 7 = 0 from by rw [u_eq, c]; rfl]
          exact ⟨by decide, by omega⟩
        · left
          rw [u_dec (by omega)]; omega
  have b2 : ∀ (L' : LV), L'.1 3 = L.1 3 → 1 ≤ uN (L'.1 4) → uN (L'.1 4) ≤ 9 → Tm (fun k => y_X10_writeChunk__a13 k 2 L' σ) (fun r => PFc σ r.2 ∧ uN r.1 ≤ uN (L.1 3) + 9) := by
    intro L' a3 a4 a5
    refine Tm_suc (fun k => by rw [y_X10_writeChunk__a13]) ?_
    refine b3 (uN (L'.1 4)) _ _ (PFc_r σ) ?_ ?_ ?_ a5
    · exact a3
    · exact a5
    · left
      show uN (L'.1 4 - 1) + 1 = _
      rw [u_sub (by show 1 ≤ _; omega)]
      show uN (L'.1 4) - 1 + 1 = _
      omega
  have b1 : ∀ (m : Nat) (L' : LV), uN (L'.1 6) + m = 8 → uN (L'.1 4) + uN (L'.1 6) = 9 → L'.1 3 = L.1 3 → Tm (fun k => y_X10_writeChunk__a13 k 1 L' σ) (fun r => PFc σ r.2 ∧ uN r.1 ≤ uN (L.1 3) + 9) := by
    intro m
    induction m with
    | zero =>
      intro L' a6 a4 a3
      refine Tm_suc (fun k => by rw [y_X10_writeChunk__a13]) ?_
      refine Tm_ite (fun _ => b2 _ a3 (by omega) (by omega)) (fun _ => ?_)
      exact Tm_yes (by rw [u_le (by decide) (by omega)]; show 8 ≤ _; omega) (b2 _ a3 (by omega) (by omega))
    | succ m ih =>
      intro L' a6 a4 a3
      refine Tm_suc (fun k => by rw [y_X10_writeChunk__a13]) ?_
      refine Tm_ite (fun _ => b2 _ a3 (by omega) (by omega)) (fun _ => ?_)
      refine Tm_ite (fun _ => b2 _ a3 (by omega) (by omega)) (fun _ => ?_)
      refine Tm_ite (fun _ => b2 _ a3 (by omega) (by omega)) (fun _ => ?_)
      refine Tm_chk0 (by decide) ?_
      refine ih _ ?_ ?_ ?_
      · show uN (L'.1 6 + 1) + m = 8
        rw [u_inc (by omega)]; omega
      · show uN (L'.1 4 + (-1)) + uN (L'.1 6 + 1) = 9
        rw [u_inc (by omega), u_dec (by omega)]; omega
      · exact a3
  refine Tm_suc (fun k => by rw [y_X10_writeChunk__a13]) ?_
  exact b1 8 _ rfl rfl rfl
/-- limbs that lessen -/
theorem lv_min {f f' : Nat → Int32} {n : Nat} (hn : 2 ≤ n) (h : ¬ f (n - 1) = 0) (e : lvC f' n = lvC f n / 1000000000) (z : f' (n - 1) = 0) : ¬ f' (n - 2) = 0 := by
  intro c
  obtain ⟨m, rfl⟩ : ∃ m, n = m + 2 := ⟨n - 2, by omega⟩
  have h1 : m + 2 - 1 = m + 1 := by omega
  have h2 : m + 2 - 2 = m := by omega
  rw [h1] at h z
  rw [h2] at c
  have a1 : lvC f' (m + 2) = lvC f' m := by
    show lvC f' m + uN (f' m) * _ + uN (f' (m + 1)) * _ = _
    rw [c, z, show uN 0 = 0 from rfl, Nat.zero_mul, Nat.zero_mul]
    rfl
  have a2 := lvC_lt f' m
  have a3 : 4294967296 ^ (m + 1) ≤ lvC f (m + 2) := by
    show _ ≤ lvC f (m + 1) + uN (f (m + 1)) * 4294967296 ^ (m + 1)
    have u : 1 ≤ uN (f (m + 1)) := by
      rcases Nat.eq_zero_or_pos (uN (f (m + 1))) with q | q
      · exact absurd (by rw [u_eq, q]; rfl) h
      · exact q
    have := Nat.mul_le_mul_right (4294967296 ^ (m + 1)) u
    omega
  rw [a1] at e
  rw [Nat.pow_succ] at a3
  generalize 4294967296 ^ m = P at a2 a3
  omega
theorem lv_end {f : Nat → Int32} {n k v : Nat} (hv : lvC f n * 1000000000 ^ k ≤ v) (hb : v < 4294967296 ^ 32) (hk : 35 ≤ k) (n1 : 1 ≤ n) : f (n - 1) = 0 := by
  have p : 1000000000 ^ 35 ≤ 1000000000 ^ k := Nat.pow_le_pow_right (by decide) hk
  have q : (4294967296 : Nat) ^ 32 ≤ 1000000000 ^ 35 := by decide
  have z : lvC f n = 0 := by
    rcases Nat.eq_zero_or_pos (lvC f n) with c | c
    · exact c
    · have := Nat.mul_le_mul_right (1000000000 ^ k) c
      omega
  obtain ⟨m, rfl⟩ : ∃ m, n = m + 1 := ⟨n - 1, by omega⟩
  have e : lvC f m + uN (f m) * 4294967296 ^ m = 0 := z
  have e2 : uN (f m) * 4294967296 ^ m = 0 := by omega
  rcases Nat.mul_eq_zero.1 e2 with c | c
  · show f (m + 1 - 1) = 0
    rw [show m + 1 - 1 = m from rfl, u_eq, c]; rfl
  · exact absurd c (Nat.ne_of_gt (Nat.pow_pos (by decide)))
theorem c_writeDigits (h : HQ g l t σ) (hx : W2 g σ (L.1 1)) : Tm (fun k => y_X10_writeDigits__a13 k 0 L σ) (fun r => PFc σ r.2 ∧ (uN (L.1 3) ≤ 10400 → uN r.1 ≤ 10400)) := by
  have b1 : ∀ L' : LV, L'.1 4 = L.1 3 → Tm (fun k => y_X10_writeDigits__a13 k 1 L' σ) (fun r => PFc σ r.2 ∧ (uN (L.1 3) ≤ 10400 → uN r.1 ≤ 10400)) := by
    intro L' a4
    refine Tm_suc (fun k => by rw [y_X10_writeDigits__a13]) ?_
    refine Tm_some ⟨PFc_r σ, fun z => ?_⟩
    show uN (L'.1 4) ≤ _
    rw [a4]; exact z
  have b7 : ∀ (m : Nat) (L' : LV) (σ' : CS), PFc σ σ' → (uN (L'.1 7) + 1 = m ∨ (2147483648 ≤ uN (L'.1 7) ∧ m = 0)) → m ≤ 35 → uN (L'.1 4) + 9 * m ≤ 10396 → Tm (fun k => y_X10_writeDigits__a13 k 7 L' σ') (fun r => PFc σ r.2 ∧ (uN (L.1 3) ≤ 10400 → uN r.1 ≤ 10400)) := by
    intro m
    induction m with
    | zero =>
      intro L' σ' w a7 hm a4
      refine Tm_suc (fun k => by rw [y_X10_writeDigits__a13]) ?_
      refine Tm_yes (by rw [u_neg]; omega) ?_
      refine Tm_suc (fun k => by rw [y_X10_writeDigits__a13]) ?_
      refine Tm_some ⟨w, fun _ => ?_⟩
      show uN (L'.1 4) ≤ _
      omega
    | succ m ih =>
      intro L' σ' w a7 hm a4
      have b12 : ∀ (L2 : LV), L2.1 7 = L'.1 7 → L2.1 4 = L'.1 4 → Tm (fun k => y_X10_writeDigits__a13 k 12 L2 σ') (fun r => PFc σ r.2 ∧ (uN (L.1 3) ≤ 10400 → uN r.1 ≤ 10400)) := by
        intro L2 z7 z4
        refine Tm_suc (fun k => by rw [y_X10_writeDigits__a13]) ?_
        refine Tm_oc (c_writeChunk (by show uN (L2.1 4) ≤ 10391; rw [z4]; omega)) (fun r hr => ?_)
        have e : uN r.1 ≤ uN (L2.1 4) + 9 := hr.2
        rw [z4] at e
        refine ih _ _ (PFc_t w hr.1) ?_ (by omega) ?_
        · show uN (L2.1 7 + (-1)) + 1 = m ∨ (2147483648 ≤ uN (L2.1 7 + (-1)) ∧ m = 0)
          rw [z7]
          by_cases c : uN (L'.1 7) = 0
          · right
            rw [show L'.1 7 = 0 from by rw [u_eq, c]; rfl]
            exact ⟨by decide, by omega⟩
          · left
            rw [u_dec (by omega)]; omega
        · show uN r.1 + 9 * m ≤ 10396
          omega
      refine Tm_suc (fun k => by rw [y_X10_writeDigits__a13]) ?_
      refine Tm_ite (fun c => absurd c (by rw [u_neg]; omega)) (fun _ => ?_)
      refine Tm_chk (u_in (by omega) (by decide)) ?_
      refine Tm_ite (fun _ => b12 _ rfl rfl) (fun _ => ?_)
      refine Tm_suc (fun k => by rw [y_X10_writeDigits__a13]) ?_
      exact b12 _ rfl rfl
  have b5 : ∀ (k : Nat) (L' : LV) (σ' : CS), PFc σ σ' → k ≤ 35 → uN (L'.1 6) = k → uN (L'.1 4) ≤ 10081 → Tm (fun k => y_X10_writeDigits__a13 k 5 L' σ') (fun r => PFc σ r.2 ∧ (uN (L.1 3) ≤ 10400 → uN r.1 ≤ 10400)) := by
    intro k L' σ' w hk a6 a4
    refine Tm_suc (fun k => by rw [y_X10_writeDigits__a13]) ?_
    refine b7 k _ _ w ?_ hk ?_
    · show uN (L'.1 6 - 1) + 1 = k ∨ (2147483648 ≤ uN (L'.1 6 - 1) ∧ k = 0)
      by_cases c : uN (L'.1 6) = 0
      · right
        rw [show L'.1 6 = 0 from by rw [u_eq, c]; rfl]
        exact ⟨by decide, by omega⟩
      · left
        rw [u_sub (by show 1 ≤ _; omega)]
        show uN (L'.1 6) - 1 + 1 = k
        omega
    · show uN (L'.1 4) + 9 * k ≤ 10396
      omega
  have b4 : ∀ (v : Nat), v < 4294967296 ^ 32 → ∀ (m k : Nat) (L' : LV) (σ' : CS), PFc σ σ' → k + m = 35 → uN (L'.1 6) = k → uN (L'.1 7) = k → uN (L'.1 4) ≤ 10081 → uN (L'.1 5) ≤ 32 → lvC (σ'.2.2.1 5) (uN (L'.1 5)) * 1000000000 ^ k ≤ v → (uN (L'.1 5) + k ≤ 32 ∨ uN (L'.1 5) = 0 ∨ ¬ σ'.2.2.1 5 (uN (L'.1 5) - 1) = 0) → Tm (fun k => y_X10_writeDigits__a13 k 4 L' σ') (fun r => PFc σ r.2 ∧ (uN (L.1 3) ≤ 10400 → uN r.1 ≤ 10400)) := by
    intro v hb m
    induction m with
    | zero =>
      intro k L' σ' w km a6 a7 a4 a5 hv hJ
      have n0 : uN (L'.1 5) = 0 := by
        rcases Nat.eq_zero_or_pos (uN (L'.1 5)) with c | c
        · exact c
        · have z := lv_end hv hb (by omega) c
          rcases hJ with q | q | q
          · omega
          · exact q
          · exact absurd z q
      refine Tm_suc (fun k => by rw [y_X10_writeDigits__a13]) ?_
      refine Tm_ite (fun _ => b5 k _ _ w (by omega) a6 a4) (fun _ => ?_)
      refine Tm_ite (fun c => absurd c (by rw [u_ltn (by decide) (by omega), n0]; exact Nat.lt_irrefl _)) (fun _ => ?_)
      refine Tm_ite (fun c => absurd c (by rw [u_eq, a7]; show ¬ k = 0; omega)) (fun _ => ?_)
      exact b5 k _ _ w (by omega) a6 a4
    | succ m ih =>
      intro k L' σ' w km a6 a7 a4 a5 hv hJ
      have b9 : ∀ (L2 : LV) (σ2 : CS), PFc σ σ2 → uN (L2.1 6) = k + 1 → L2.1 7 = L'.1 7 → L2.1 4 = L'.1 4 → uN (L2.1 100) ≤ 32 → lvC (σ2.2.2.1 5) (uN (L2.1 100)) * 1000000000 ^ (k + 1) ≤ v → (uN (L2.1 100) + (k + 1) ≤ 32 ∨ uN (L2.1 100) = 0 ∨ ¬ σ2.2.2.1 5 (uN (L2.1 100) - 1) = 0) → Tm (fun k => y_X10_writeDigits__a13 k 9 L2 σ2) (fun r => PFc σ r.2 ∧ (uN (L.1 3) ≤ 10400 → uN r.1 ≤ 10400)) := by
        intro L2 σ2 w2 z6 z7 z4 z100 zv zJ
        refine Tm_suc (fun k => by rw [y_X10_writeDigits__a13]) ?_
        refine ih (k + 1) _ _ w2 (by omega) ?_ ?_ ?_ ?_ ?_ ?_
        · exact z6
        · show uN (L2.1 7 + 1) = k + 1
          rw [z7, u_inc (by omega), a7]
        · show uN (L2.1 4) ≤ _
          rw [z4]; exact a4
        · exact z100
        · exact zv
        · exact zJ
      have b6 : Tm (fun k => y_X10_writeDigits__a13 k 6 L' σ') (fun r => PFc σ r.2 ∧ (uN (L.1 3) ≤ 10400 → uN r.1 ≤ 10400)) := by
        refine Tm_suc (fun k => by rw [y_X10_writeDigits__a13]) ?_
        refine Tm_oc (c_takeBillion (n := uN (L'.1 5)) (by omega) rfl) (fun r hr => ?_)
        obtain ⟨f, f1, f2⟩ := hr
        have w2 : PFc σ (uA r.2 11 (L'.1 6).toNatClampNeg r.1) := by
          refine PFc_t w (PFc_t ?_ (PFc_A _ (by decide) _ _))
          rw [f1]
          exact PFc_F _ (by decide) _
        have r5 : (uA r.2 11 (L'.1 6).toNatClampNeg r.1).2.2.1 5 = f := by
          show r.2.2.2.1 5 = f
          rw [f1]; rfl
        have fv : lvC f (uN (L'.1 5)) * 1000000000 ^ (k + 1) ≤ v := by
          refine Nat.le_trans ?_ hv
          rw [f2, Nat.pow_succ, Nat.mul_comm (1000000000 ^ k), ← Nat.mul_assoc]
          exact Nat.mul_le_mul_right _ (Nat.div_mul_le_self _ _)
        have e6 : uN (L'.1 6 + 1) = k + 1 := by rw [u_inc (by omega), a6]
        have stay : (uN (L'.1 5) = 0 ∨ ¬ f (uN (L'.1 5) - 1) = 0) → Tm (fun k => y_X10_writeDigits__a13 k 8 (lI L' 6 (L'.1 6 + 1)) (uA r.2 11 (L'.1 6).toNatClampNeg r.1)) (fun r => PFc σ r.2 ∧ (uN (L.1 3) ≤ 10400 → uN r.1 ≤ 10400)) := by
          intro z
          refine Tm_suc (fun k => by rw [y_X10_writeDigits__a13]) ?_
          refine b9 _ _ w2 ?_ ?_ ?_ ?_ ?_ ?_
          · exact e6
          · rfl
          · rfl
          · exact a5
          · rw [r5]; exact fv
          · rw [r5]; exact Or.inr z
        refine Tm_chk (u_in (by omega) (by decide)) ?_
        refine Tm_ite (fun c => ?_) (fun c => ?_)
        · rw [u_le (by omega) (by decide)] at c
          exact stay (Or.inl (Nat.le_zero.1 c))
        · rw [u_le (by omega) (by decide)] at c
          have c' : 1 ≤ uN (L'.1 5) := Nat.lt_of_not_le c
          have e5 : uN (L'.1 5 - 1) = uN (L'.1 5) - 1 := by rw [u_sub (by show 1 ≤ _; omega)]; rfl
          refine Tm_chk (u_in (by omega) (by decide)) ?_
          rw [r5, u_cl (x := L'.1 5 - 1) (by omega), e5]
          refine Tm_ite (fun z => ?_) (fun z => stay (Or.inr z))
          refine b9 _ _ w2 ?_ ?_ ?_ ?_ ?_ ?_
          · exact e6
          · rfl
          · rfl
          · show uN (L'.1 5 - 1) ≤ 32; omega
          · show lvC _ (uN (L'.1 5 - 1)) * _ ≤ v
            rw [r5, e5]
            have s : lvC f (uN (L'.1 5)) = lvC f (uN (L'.1 5) - 1) := by
              obtain ⟨q, hq⟩ : ∃ q, uN (L'.1 5) = q + 1 := ⟨uN (L'.1 5) - 1, by omega⟩
              rw [hq] at z ⊢
              rw [show q + 1 - 1 = q from rfl] at z ⊢
              show lvC f q + uN (f q) * _ = _
              rw [z, show uN 0 = 0 from rfl, Nat.zero_mul]; rfl
            rw [← s]; exact fv
          · show uN (L'.1 5 - 1) + (k + 1) ≤ 32 ∨ uN (L'.1 5 - 1) = 0 ∨ ¬ (uA r.2 11 (L'.1 6).toNatClampNeg r.1).2.2.1 5 (uN (L'.1 5 - 1) - 1) = 0
            rw [r5, e5]
            rcases hJ with q | q | q
            · left; omega
            · omega
            · right
              rcases Nat.lt_or_ge (uN (L'.1 5)) 2 with y | y
              · left; omega
              · right
                rw [show uN (L'.1 5) - 1 - 1 = uN (L'.1 5) - 2 from by omega]
                exact lv_min y q f2 z
      refine Tm_suc (fun k => by rw [y_X10_writeDigits__a13]) ?_
      refine Tm_ite (fun _ => b5 k _ _ w (by omega) a6 a4) (fun _ => ?_)
      refine Tm_ite (fun _ => b6) (fun _ => ?_)
      exact Tm_ite (fun _ => b6) (fun _ => b5 k _ _ w (by omega) a6 a4)
  have b3 : ∀ (L' : LV) (σ' : CS), PFc σ σ' → L'.1 1 = L.1 1 → uN (L'.1 4) ≤ 10081 → Tm (fun k => y_X10_writeDigits__a13 k 3 L' σ') (fun r => PFc σ r.2 ∧ (uN (L.1 3) ≤ 10400 → uN r.1 ≤ 10400)) := by
    intro L' σ' w a1 a4
    have q : W2 g σ' (L'.1 1) := W2_P w (by rw [a1]; exact hx)
    refine Tm_suc (fun k => by rw [y_X10_writeDigits__a13]) ?_
    refine Tm_oc (c_load5 (HQ_P h w) q.1 (fun c => W2_h q c)) (fun r hr => ?_)
    refine b4 (lvC (r.2.2.2.1 5) (uN r.1)) ?_ 35 0 _ _ (PFc_t w (PFc_W hr.1)) rfl ?_ ?_ ?_ ?_ ?_ ?_
    · exact Nat.lt_of_lt_of_le (lvC_lt _ _) (Nat.pow_le_pow_right (by decide) hr.2)
    · rfl
    · rfl
    · exact a4
    · exact hr.2
    · show lvC (r.2.2.2.1 5) (uN r.1) * 1000000000 ^ 0 ≤ _
      rw [Nat.pow_zero, Nat.mul_one]
      exact Nat.le_refl _
    · left
      show uN r.1 + 0 ≤ 32
      have := hr.2
      omega
  have b2 : ∀ (L' : LV), L'.1 1 = L.1 1 → uN (L'.1 4) ≤ 10080 → Tm (fun k => y_X10_writeDigits__a13 k 2 L' σ) (fun r => PFc σ r.2 ∧ (uN (L.1 3) ≤ 10400 → uN r.1 ≤ 10400)) := by
    intro L' a1 a4
    refine Tm_suc (fun k => by rw [y_X10_writeDigits__a13]) ?_
    refine Tm_oc (c_isBelow h (by show Gv g (L'.1 1); rw [a1]; exact hx.1)) (fun r hr => ?_)
    have e : r.2 = σ := hr.1
    rw [e]
    refine Tm_ite (fun _ => b3 _ _ (PFc_r σ) a1 (by omega)) (fun _ => ?_)
    refine Tm_chk (u_in (by omega) (by decide)) ?_
    refine b3 _ _ (PFc_A σ (by decide) _ _) ?_ ?_
    · exact a1
    · show uN (L'.1 4 + 1) ≤ 10081
      rw [u_inc (by omega)]; omega
  refine Tm_suc (fun k => by rw [y_X10_writeDigits__a13]) ?_
  refine Tm_ite (fun _ => b1 _ rfl) (fun c => Tm_ite (fun c2 => ?_) (fun _ => b1 _ rfl))
  rw [u_neg] at c
  rw [show Int32.ofNat 10400 - 320 = 10080 from by decide, u_le (by omega) (by decide)] at c2
  exact b2 _ rfl c2
end CRQ
