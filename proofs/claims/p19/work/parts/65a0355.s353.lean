section JnS353
/-! The class: digits as printed: no more than 35 billions, so 316 bytes. -/
section CRQ
variable {g g' g2 : Nat → Prop} {l l' : List Nat} {t t' t2 : Nat} {σ σ' σ2 : CS} {L : LV} {x y i : Int32} {M M' : Nat → Int32}
/-- what printing may write, its length aside -/
def PFc (σ σ' : CS) : Prop := (∀ j, ¬ j = 404 → σ'.1 j = σ.1 j) ∧ σ'.2.1 = σ.2.1 ∧ (∀ k, ¬ ((5 ≤ k ∧ k ≤ 11) ∨ k = 13) → σ'.2.2.1 k = σ.2.2.1 k) ∧ σ'.2.2.2 = σ.2.2.2
theorem PFc_r (σ : CS) : PFc σ σ := ⟨fun _ _ => rfl, rfl, fun _ _ => rfl, rfl⟩
theorem PFc_t (a : PFc σ σ') (b : PFc σ' σ2) : PFc σ σ2 := ⟨fun j hj => (b.1 j hj).trans (a.1 j hj), b.2.1.trans a.2.1, fun k hk => (b.2.2.1 k hk).trans (a.2.2.1 k hk), b.2.2.2.trans a.2.2.2⟩
theorem PFc_W (w : WF σ σ') : PFc σ σ' := ⟨w.1, w.2.1, fun k hk => w.2.2.1 k (fun e => hk (Or.inl e)), w.2.2.2⟩
theorem PFc_F (σ : CS) {k : Nat} (hk : (5 ≤ k ∧ k ≤ 11) ∨ k = 13) (f : Nat → Int32) : PFc σ (uF σ k f) := ⟨fun _ _ => rfl, rfl, fun j hj => if_neg (fun e => hj (by rw [e]; exact hk)), rfl⟩
theorem PFc_A (σ : CS) {k : Nat} (hk : (5 ≤ k ∧ k ≤ 11) ∨ k = 13) (i : Nat) (x : Int32) : PFc σ (uA σ k i x) := PFc_F σ hk _
theorem HQ_P (h : HQ g l t σ) (w : PFc σ σ') : HQ g l t σ' := HQ_fr h (w.1 1 (by decide)) (w.2.2.1 3 (by decide)) (by rw [w.2.2.2])
theorem W2_P (w : PFc σ σ') (h : W2 g σ x) : W2 g σ' x := ⟨h.1, by rw [w.2.2.1 3 (by decide)]; exact h.2⟩
theorem c_writeChunk (hs : uN (L.1 3) ≤ 10391) : Tm (fun k => y_X10_writeChunk__a13 k 0 L σ) (fun r => PFc σ r.2 ∧ uN r.1 ≤ uN (L.1 3) + 9) := by
  have b3 : ∀ (m : Nat) (L' : LV) (σ' : CS), PFc σ σ' → L'.1 3 = L.1 3 → uN (L'.1 4) ≤ 9 → (uN (L'.1 7) + 1 = m ∨ (2147483648 ≤ uN (L'.1 7) ∧ m = 0)) → m ≤ 9 → Tm (fun k => y_X10_writeChunk__a13 k 3 L' σ') (fun r => PFc σ r.2 ∧ uN r.1 ≤ uN (L.1 3) + 9) := by
    intro m
    induction m with
    | zero =>
      intro L' σ' w a3 a4 a7 hm
      refine Tm_suc (fun k => by rw [y_X10_writeChunk__a13]) ?_
      refine Tm_yes (by rw [u_neg]; omega) ?_
      refine Tm_suc (fun k => by rw [y_X10_writeChunk__a13]) ?_
      refine Tm_some ⟨w, ?_⟩
      show uN (L'.1 3 + L'.1 4) ≤ _
      rw [a3, u_add (by omega)]; omega
    | succ m ih =>
      intro L' σ' w a3 a4 a7 hm
      have e : uN (L'.1 3 + L'.1 7) = uN (L.1 3) + uN (L'.1 7) := by rw [a3, u_add (by omega)]
      refine Tm_suc (fun k => by rw [y_X10_writeChunk__a13]) ?_
      refine Tm_ite (fun c => absurd c (by rw [u_neg]; omega)) (fun _ => ?_)
      refine Tm_chk0 (by decide) ?_
      refine Tm_chk (u_in (by omega) (by decide)) ?_
      refine Tm_chk0 (by decide) ?_
      refine ih _ _ (PFc_t w (PFc_A _ (by decide) _ _)) ?_ ?_ ?_ (by omega)
      · exact a3
      · exact a4
      · show uN (L'.1 7 + (-1)) + 1 = m ∨ (2147483648 ≤ uN (L'.1 7 + (-1)) ∧ m = 0)
        by_cases c : uN (L'.1 7) = 0
        · right
          rw [show L'.1 7 = 0 from by rw [u_eq, c]; rfl]
          exact ⟨by decide, by omega⟩
        · left
          rw [u_dec (by omega)]; omega
  have b2 : ∀ (L' : LV), L'.1 3 = L.1 3 → 1 ≤ uN (L'.1 4) → uN (L'.1 4) ≤ 9 → Tm (fun k => y_X10_writeChunk__a13 k 2 L' σ) (fun r => PFc σ r.2 ∧ uN r.1 ≤ uN (L.1 3) + 9) := by
    intro L' a3 a4 a5
    refine Tm_suc (fun k => by rw [y_X10_writeChunk__a13]) ?_
    refine b3 (uN (L'.1 4)) _ _ (PFc_r σ) ?_ ?_ ?_ a5
    · exact a3
    · exact a5
    · left
      show uN (L'.1 4 - 1) + 1 = _
      rw [u_sub (by show 1 ≤ _; omega)]
      show uN (L'.1 4) - 1 + 1 = _
      omega
  have b1 : ∀ (m : Nat) (L' : LV), uN (L'.1 6) + m = 8 → uN (L'.1 4) + uN (L'.1 6) = 9 → L'.1 3 = L.1 3 → Tm (fun k => y_X10_writeChunk__a13 k 1 L' σ) (fun r => PFc σ r.2 ∧ uN r.1 ≤ uN (L.1 3) + 9) := by
    intro m
    induction m with
    | zero =>
      intro L' a6 a4 a3
      refine Tm_suc (fun k => by rw [y_X10_writeChunk__a13]) ?_
      refine Tm_ite (fun _ => b2 _ a3 (by omega) (by omega)) (fun _ => ?_)
      exact Tm_yes (by rw [u_le (by decide) (by omega)]; show 8 ≤ _; omega) (b2 _ a3 (by omega) (by omega))
    | succ m ih =>
      intro L' a6 a4 a3
      refine Tm_suc (fun k => by rw [y_X10_writeChunk__a13]) ?_
      refine Tm_ite (fun _ => b2 _ a3 (by omega) (by omega)) (fun _ => ?_)
      refine Tm_ite (fun _ => b2 _ a3 (by omega) (by omega)) (fun _ => ?_)
      refine Tm_ite (fun _ => b2 _ a3 (by omega) (by omega)) (fun _ => ?_)
      refine Tm_chk0 (by decide) ?_
      refine ih _ ?_ ?_ ?_
      · show uN (L'.1 6 + 1) + m = 8
        rw [u_inc (by omega)]; omega
      · show uN (L'.1 4 + (-1)) + uN (L'.1 6 + 1) = 9
        rw [u_inc (by omega), u_dec (by omega)]; omega
      · exact a3
  refine Tm_suc (fun k => by rw [y_X10_writeChunk__a13]) ?_
  exact b1 8 _ rfl rfl rfl
/-- limbs that lessen -/
theorem lv_min {f f' : Nat → Int32} {n : Nat} (hn : 2 ≤ n) (h : ¬ f (n - 1) = 0) (e : lvC f' n = lvC f n / 1000000000) (z : f' (n - 1) = 0) : ¬ f' (n - 2) = 0 := by
  intro c
  obtain ⟨m, rfl⟩ : ∃ m, n = m + 2 := ⟨n - 2, by omega⟩
  have h1 : m + 2 - 1 = m + 1 := by omega
  have h2 : m + 2 - 2 = m := by omega
  rw [h1] at h z
  rw [h2] at c
  have a1 : lvC f' (m + 2) = lvC f' m := by
    show lvC f' m + uN (f' m) * _ + uN (f' (m + 1)) * _ = _
    rw [c, z, show uN 0 = 0 from rfl, Nat.zero_mul, Nat.zero_mul]
    rfl
  have a2 := lvC_lt f' m
  have a3 : 4294967296 ^ (m + 1) ≤ lvC f (m + 2) := by
    show _ ≤ lvC f (m + 1) + uN (f (m + 1)) * 4294967296 ^ (m + 1)
    have u : 1 ≤ uN (f (m + 1)) := by
      rcases Nat.eq_zero_or_pos (uN (f (m + 1))) with q | q
      · exact absurd (by rw [u_eq, q]; rfl) h
      · exact q
    have := Nat.mul_le_mul_right (4294967296 ^ (m + 1)) u
    omega
  rw [a1] at e
  rw [Nat.pow_succ] at a3
  generalize 4294967296 ^ m = P at a2 a3
  omega
theorem lv_end {f : Nat → Int32} {n k v : Nat} (hv : lvC f n * 1000000000 ^ k ≤ v) (hb : v < 4294967296 ^ 32) (hk : 35 ≤ k) (n1 : 1 ≤ n) : f (n - 1) = 0 := by
  have p : 1000000000 ^ 35 ≤ 1000000000 ^ k := Nat.pow_le_pow_right (by decide) hk
  have q : (4294967296 : Nat) ^ 32 ≤ 1000000000 ^ 35 := by decide
  have z : lvC f n = 0 := by
    rcases Nat.eq_zero_or_pos (lvC f n) with c | c
    · exact c
    · have := Nat.mul_le_mul_right (1000000000 ^ k) c
      omega
  obtain ⟨m, rfl⟩ : ∃ m, n = m + 1 := ⟨n - 1, by omega⟩
  have e : lvC f m + uN (f m) * 4294967296 ^ m = 0 := z
  have e2 : uN (f m) * 4294967296 ^ m = 0 := by omega
  rcases Nat.mul_eq_zero.1 e2 with c | c
  · show f (m + 1 - 1) = 0
    rw [show m + 1 - 1 = m from rfl, u_eq, c]; rfl
  · exact absurd c (Nat.ne_of_gt (Nat.pow_pos (by decide)))
theorem c_writeDigits (h : HQ g l t σ) (hx : W2 g σ (L.1 1)) : Tm (fun k => y_X10_writeDigits__a13 k 0 L σ) (fun r => PFc σ r.2 ∧ (uN (L.1 3) ≤ 10400 → uN r.1 ≤ 10400)) := by
  have b1 : ∀ L' : LV, L'.1 4 = L.1 3 → Tm (fun k => y_X10_writeDigits__a13 k 1 L' σ) (fun r => PFc σ r.2 ∧ (uN (L.1 3) ≤ 10400 → uN r.1 ≤ 10400)) := by
    intro L' a4
    refine Tm_suc (fun k => by rw [y_X10_writeDigits__a13]) ?_
    refine Tm_some ⟨PFc_r σ, fun z => ?_⟩
    show uN (L'.1 4) ≤ _
    rw [a4]; exact z
  have b7 : ∀ (m : Nat) (L' : LV) (σ' : CS), PFc σ σ' → (uN (L'.1 7) + 1 = m ∨ (2147483648 ≤ uN (L'.1 7) ∧ m = 0)) → m ≤ 35 → uN (L'.1 4) + 9 * m ≤ 10396 → Tm (fun k => y_X10_writeDigits__a13 k 7 L' σ') (fun r => PFc σ r.2 ∧ (uN (L.1 3) ≤ 10400 → uN r.1 ≤ 10400)) := by
    intro m
    induction m with
    | zero =>
      intro L' σ' w a7 hm a4
      refine Tm_suc (fun k => by rw [y_X10_writeDigits__a13]) ?_
      refine Tm_yes (by rw [u_neg]; omega) ?_
      refine Tm_suc (fun k => by rw [y_X10_writeDigits__a13]) ?_
      refine Tm_some ⟨w, fun _ => ?_⟩
      show uN (L'.1 4) ≤ _
      omega
    | succ m ih =>
      intro L' σ' w a7 hm a4
      have b12 : ∀ (L2 : LV), L2.1 7 = L'.1 7 → L2.1 4 = L'.1 4 → Tm (fun k => y_X10_writeDigits__a13 k 12 L2 σ') (fun r => PFc σ r.2 ∧ (uN (L.1 3) ≤ 10400 → uN r.1 ≤ 10400)) := by
        intro L2 z7 z4
        refine Tm_suc (fun k => by rw [y_X10_writeDigits__a13]) ?_
        refine Tm_oc (c_writeChunk (by show uN (L2.1 4) ≤ 10391; rw [z4]; omega)) (fun r hr => ?_)
        have e : uN r.1 ≤ uN (L2.1 4) + 9 := hr.2
        rw [z4] at e
        refine ih _ _ (PFc_t w hr.1) ?_ (by omega) ?_
        · show uN (L2.1 7 + (-1)) + 1 = m ∨ (2147483648 ≤ uN (L2.1 7 + (-1)) ∧ m = 0)
          rw [z7]
          by_cases c : uN (L'.1 7) = 0
          · right
            rw [show L'.1 7 = 0 from by rw [u_eq, c]; rfl]
            exact ⟨by decide, by omega⟩
          · left
            rw [u_dec (by omega)]; omega
        · show uN r.1 + 9 * m ≤ 10396
          omega
      refine Tm_suc (fun k => by rw [y_X10_writeDigits__a13]) ?_
      refine Tm_ite (fun c => absurd c (by rw [u_neg]; omega)) (fun _ => ?_)
      refine Tm_chk (u_in (by omega) (by decide)) ?_
      refine Tm_ite (fun _ => b12 _ rfl rfl) (fun _ => ?_)
      refine Tm_suc (fun k => by rw [y_X10_writeDigits__a13]) ?_
      exact b12 _ rfl rfl
  have b5 : ∀ (k : Nat) (L' : LV) (σ' : CS), PFc σ σ' → k ≤ 35 → uN (L'.1 6) = k → uN (L'.1 4) ≤ 10081 → Tm (fun k => y_X10_writeDigits__a13 k 5 L' σ') (fun r => PFc σ r.2 ∧ (uN (L.1 3) ≤ 10400 → uN r.1 ≤ 10400)) := by
    intro k L' σ' w hk a6 a4
    refine Tm_suc (fun k => by rw [y_X10_writeDigits__a13]) ?_
    refine b7 k _ _ w ?_ hk ?_
    · show uN (L'.1 6 - 1) + 1 = k ∨ (2147483648 ≤ uN (L'.1 6 - 1) ∧ k = 0)
      by_cases c : uN (L'.1 6) = 0
      · right
        rw [show L'.1 6 = 0 from by rw [u_eq, c]; rfl]
        exact ⟨by decide, by omega⟩
      · left
        rw [u_sub (by show 1 ≤ _; omega)]
        show uN (L'.1 6) - 1 + 1 = k
        omega
    · show uN (L'.1 4) + 9 * k ≤ 10396
      omega
  have b4 : ∀ (v : Nat), v < 4294967296 ^ 32 → ∀ (m k : Nat) (L' : LV) (σ' : CS), PFc σ σ' → k + m = 35 → uN (L'.1 6) = k → uN (L'.1 7) = k → uN (L'.1 4) ≤ 10081 → uN (L'.1 5) ≤ 32 → lvC (σ'.2.2.1 5) (uN (L'.1 5)) * 1000000000 ^ k ≤ v → (uN (L'.1 5) + k ≤ 32 ∨ uN (L'.1 5) = 0 ∨ ¬ σ'.2.2.1 5 (uN (L'.1 5) - 1) = 0) → Tm (fun k => y_X10_writeDigits__a13 k 4 L' σ') (fun r => PFc σ r.2 ∧ (uN (L.1 3) ≤ 10400 → uN r.1 ≤ 10400)) := by
    intro v hb m
    induction m with
    | zero =>
      intro k L' σ' w km a6 a7 a4 a5 hv hJ
      have n0 : uN (L'.1 5) = 0 := by
        rcases Nat.eq_zero_or_pos (uN (L'.1 5)) with c | c
        · exact c
        · have z := lv_end hv hb (by omega) c
          rcases hJ with q | q | q
          · omega
          · exact q
          · exact absurd z q
      refine Tm_suc (fun k => by rw [y_X10_writeDigits__a13]) ?_
      refine Tm_ite (fun _ => b5 k _ _ w (by omega) a6 a4) (fun _ => ?_)
      refine Tm_ite (fun c => absurd c (by rw [u_ltn (by decide) (by omega), n0]; exact Nat.lt_irrefl _)) (fun _ => ?_)
      refine Tm_ite (fun c => absurd c (by rw [u_eq, a7]; show ¬ k = 0; omega)) (fun _ => ?_)
      exact b5 k _ _ w (by omega) a6 a4
    | succ m ih =>
      intro k L' σ' w km a6 a7 a4 a5 hv hJ
      have b9 : ∀ (L2 : LV) (σ2 : CS), PFc σ σ2 → uN (L2.1 6) = k + 1 → L2.1 7 = L'.1 7 → L2.1 4 = L'.1 4 → uN (L2.1 100) ≤ 32 → lvC (σ2.2.2.1 5) (uN (L2.1 100)) * 1000000000 ^ (k + 1) ≤ v → (uN (L2.1 100) + (k + 1) ≤ 32 ∨ uN (L2.1 100) = 0 ∨ ¬ σ2.2.2.1 5 (uN (L2.1 100) - 1) = 0) → Tm (fun k => y_X10_writeDigits__a13 k 9 L2 σ2) (fun r => PFc σ r.2 ∧ (uN (L.1 3) ≤ 10400 → uN r.1 ≤ 10400)) := by
        intro L2 σ2 w2 z6 z7 z4 z100 zv zJ
        refine Tm_suc (fun k => by rw [y_X10_writeDigits__a13]) ?_
        refine ih (k + 1) _ _ w2 (by omega) ?_ ?_ ?_ ?_ ?_ ?_
        · exact z6
        · show uN (L2.1 7 + 1) = k + 1
          rw [z7, u_inc (by omega), a7]
        · show uN (L2.1 4) ≤ _
          rw [z4]; exact a4
        · exact z100
        · exact zv
        · exact zJ
      have b6 : Tm (fun k => y_X10_writeDigits__a13 k 6 L' σ') (fun r => PFc σ r.2 ∧ (uN (L.1 3) ≤ 10400 → uN r.1 ≤ 10400)) := by
        refine Tm_suc (fun k => by rw [y_X10_writeDigits__a13]) ?_
        refine Tm_oc (c_takeBillion (n := uN (L'.1 5)) (by omega) rfl) (fun r hr => ?_)
        obtain ⟨f, f1, f2⟩ := hr
        have w2 : PFc σ (uA r.2 11 (L'.1 6).toNatClampNeg r.1) := by
          refine PFc_t w (PFc_t ?_ (PFc_A _ (by decide) _ _))
          rw [f1]
          exact PFc_F _ (by decide) _
        have r5 : (uA r.2 11 (L'.1 6).toNatClampNeg r.1).2.2.1 5 = f := by
          show r.2.2.2.1 5 = f
          rw [f1]; rfl
        have fv : lvC f (uN (L'.1 5)) * 1000000000 ^ (k + 1) ≤ v := by
          refine Nat.le_trans ?_ hv
          rw [f2, Nat.pow_succ, Nat.mul_comm (1000000000 ^ k), ← Nat.mul_assoc]
          exact Nat.mul_le_mul_right _ (Nat.div_mul_le_self _ _)
        have e6 : uN (L'.1 6 + 1) = k + 1 := by rw [u_inc (by omega), a6]
        have stay : (uN (L'.1 5) = 0 ∨ ¬ f (uN (L'.1 5) - 1) = 0) → Tm (fun k => y_X10_writeDigits__a13 k 8 (lI L' 6 (L'.1 6 + 1)) (uA r.2 11 (L'.1 6).toNatClampNeg r.1)) (fun r => PFc σ r.2 ∧ (uN (L.1 3) ≤ 10400 → uN r.1 ≤ 10400)) := by
          intro z
          refine Tm_suc (fun k => by rw [y_X10_writeDigits__a13]) ?_
          refine b9 _ _ w2 ?_ ?_ ?_ ?_ ?_ ?_
          · exact e6
          · rfl
          · rfl
          · exact a5
          · rw [r5]; exact fv
          · rw [r5]; exact Or.inr z
        refine Tm_chk (u_in (by omega) (by decide)) ?_
        refine Tm_ite (fun c => ?_) (fun c => ?_)
        · rw [u_le (by omega) (by decide)] at c
          exact stay (Or.inl (Nat.le_zero.1 c))
        · rw [u_le (by omega) (by decide)] at c
          have c' : 1 ≤ uN (L'.1 5) := Nat.lt_of_not_le c
          have e5 : uN (L'.1 5 - 1) = uN (L'.1 5) - 1 := by rw [u_sub (by show 1 ≤ _; omega)]; rfl
          refine Tm_chk (u_in (by omega) (by decide)) ?_
          rw [r5, u_cl (x := L'.1 5 - 1) (by omega), e5]
          refine Tm_ite (fun z => ?_) (fun z => stay (Or.inr z))
          refine b9 _ _ w2 ?_ ?_ ?_ ?_ ?_ ?_
          · exact e6
          · rfl
          · rfl
          · show uN (L'.1 5 - 1) ≤ 32; omega
          · show lvC _ (uN (L'.1 5 - 1)) * _ ≤ v
            rw [r5, e5]
            have s : lvC f (uN (L'.1 5)) = lvC f (uN (L'.1 5) - 1) := by
              obtain ⟨q, hq⟩ : ∃ q, uN (L'.1 5) = q + 1 := ⟨uN (L'.1 5) - 1, by omega⟩
              rw [hq] at z ⊢
              rw [show q + 1 - 1 = q from rfl] at z ⊢
              show lvC f q + uN (f q) * _ = _
              rw [z, show uN 0 = 0 from rfl, Nat.zero_mul]; rfl
            rw [← s]; exact fv
          · show uN (L'.1 5 - 1) + (k + 1) ≤ 32 ∨ uN (L'.1 5 - 1) = 0 ∨ ¬ (uA r.2 11 (L'.1 6).toNatClampNeg r.1).2.2.1 5 (uN (L'.1 5 - 1) - 1) = 0
            rw [r5, e5]
            rcases hJ with q | q | q
            · left; omega
            · omega
            · right
              rcases Nat.lt_or_ge (uN (L'.1 5)) 2 with y | y
              · left; omega
              · right
                rw [show uN (L'.1 5) - 1 - 1 = uN (L'.1 5) - 2 from by omega]
                exact lv_min y q f2 z
      refine Tm_suc (fun k => by rw [y_X10_writeDigits__a13]) ?_
      refine Tm_ite (fun _ => b5 k _ _ w (by omega) a6 a4) (fun _ => ?_)
      refine Tm_ite (fun _ => b6) (fun _ => ?_)
      exact Tm_ite (fun _ => b6) (fun _ => b5 k _ _ w (by omega) a6 a4)
  have b3 : ∀ (L' : LV) (σ' : CS), PFc σ σ' → L'.1 1 = L.1 1 → uN (L'.1 4) ≤ 10081 → Tm (fun k => y_X10_writeDigits__a13 k 3 L' σ') (fun r => PFc σ r.2 ∧ (uN (L.1 3) ≤ 10400 → uN r.1 ≤ 10400)) := by
    intro L' σ' w a1 a4
    have q : W2 g σ' (L'.1 1) := W2_P w (by rw [a1]; exact hx)
    refine Tm_suc (fun k => by rw [y_X10_writeDigits__a13]) ?_
    refine Tm_oc (c_load5 (HQ_P h w) q.1 (fun c => W2_h q c)) (fun r hr => ?_)
    refine b4 (lvC (r.2.2.2.1 5) (uN r.1)) ?_ 35 0 _ _ (PFc_t w (PFc_W hr.1)) rfl ?_ ?_ ?_ ?_ ?_ ?_
    · exact Nat.lt_of_lt_of_le (lvC_lt _ _) (Nat.pow_le_pow_right (by decide) hr.2)
    · rfl
    · rfl
    · exact a4
    · exact hr.2
    · show lvC (r.2.2.2.1 5) (uN r.1) * 1000000000 ^ 0 ≤ _
      rw [Nat.pow_zero, Nat.mul_one]
      exact Nat.le_refl _
    · left
      show uN r.1 + 0 ≤ 32
      have := hr.2
      omega
  have b2 : ∀ (L' : LV), L'.1 1 = L.1 1 → uN (L'.1 4) ≤ 10080 → Tm (fun k => y_X10_writeDigits__a13 k 2 L' σ) (fun r => PFc σ r.2 ∧ (uN (L.1 3) ≤ 10400 → uN r.1 ≤ 10400)) := by
    intro L' a1 a4
    refine Tm_suc (fun k => by rw [y_X10_writeDigits__a13]) ?_
    refine Tm_oc (c_isBelow h (by show Gv g (L'.1 1); rw [a1]; exact hx.1)) (fun r hr => ?_)
    have e : r.2 = σ := hr.1
    rw [e]
    refine Tm_ite (fun _ => b3 _ _ (PFc_r σ) a1 (by omega)) (fun _ => ?_)
    refine Tm_chk (u_in (by omega) (by decide)) ?_
    refine b3 _ _ (PFc_A σ (by decide) _ _) ?_ ?_
    · exact a1
    · show uN (L'.1 4 + 1) ≤ 10081
      rw [u_inc (by omega)]; omega
  refine Tm_suc (fun k => by rw [y_X10_writeDigits__a13]) ?_
  refine Tm_ite (fun _ => b1 _ rfl) (fun c => Tm_ite (fun c2 => ?_) (fun _ => b1 _ rfl))
  rw [u_neg] at c
  rw [show Int32.ofNat 10400 - 320 = 10080 from by decide, u_le (by omega) (by decide)] at c2
  exact b2 _ rfl c2
end CRQ
end JnS353
section JnS354
/-! The class: the printer. -/
theorem Tm_oxz {x : Nat → Option RS} {f : Nat → RS → Option RS} {P Q : RS → Prop} (t : Tm x P) (hz : ∀ r, P r → r.1.1 = 0 ∧ r.2.2 = (0, 0)) (h : ∀ r, P r → Tm (fun k => f k r) Q) : Tm (fun k => ox (x k) (f k)) Q := by
  refine Tm_ox t (fun r hr n => absurd (hz r hr).1 n) (fun r hr _ => ?_)
  refine Tm_mono (h r hr) (fun q hq => ?_)
  rw [(hz r hr).2]
  show Q (q.1, q.2.1, (0 + q.2.2.1, 0 + q.2.2.2))
  rw [Nat.zero_add, Nat.zero_add]
  exact hq
theorem Tm_of {e : Nat} {f : Nat → Nat → Option RS} {Q : RS → Prop} (t : Tm (fun k => f k e) Q) : Tm (fun k => Jvm.Pilot.CSetHouseLaw_law_r6264_2ea8b6.of (e + 1) (f k)) Q := t
section CRR
variable {g g' g2 : Nat → Prop} {l l' : List Nat} {t t' t2 : Nat} {σ σ' σ2 : CS} {L : LV} {x y i : Int32} {M M' : Nat → Int32}
/-- what printing may write -/
def PFl (σ σ' : CS) : Prop := (∀ j, ¬ (j = 404 ∨ j = 1203) → σ'.1 j = σ.1 j) ∧ σ'.2.1 = σ.2.1 ∧ (∀ k, ¬ ((5 ≤ k ∧ k ≤ 11) ∨ k = 13) → σ'.2.2.1 k = σ.2.2.1 k) ∧ σ'.2.2.2 = σ.2.2.2
theorem PFl_r (σ : CS) : PFl σ σ := ⟨fun _ _ => rfl, rfl, fun _ _ => rfl, rfl⟩
theorem PFl_t (a : PFl σ σ') (b : PFl σ' σ2) : PFl σ σ2 := ⟨fun j hj => (b.1 j hj).trans (a.1 j hj), b.2.1.trans a.2.1, fun k hk => (b.2.2.1 k hk).trans (a.2.2.1 k hk), b.2.2.2.trans a.2.2.2⟩
theorem PFl_c (w : PFc σ σ') : PFl σ σ' := ⟨fun j hj => w.1 j (fun e => hj (Or.inl e)), w.2.1, w.2.2.1, w.2.2.2⟩
theorem PFl_l (σ : CS) (x : Int32) : PFl σ (uI σ 1203 x) := ⟨fun j hj => upd_other (fun e => hj (Or.inr e)), rfl, fun _ _ => rfl, rfl⟩
theorem HQ_L (h : HQ g l t σ) (w : PFl σ σ') : HQ g l t σ' := HQ_fr h (w.1 1 (by decide)) (w.2.2.1 3 (by decide)) (by rw [w.2.2.2])
/-- what printing leaves -/
def POc (σ : CS) (r : RS) : Prop := r.1.1 = 0 ∧ r.2.2 = (0, 0) ∧ PFl σ r.2.1 ∧ uN (r.2.1.1 1203) ≤ 10400
/-- a word as a string -/
def WO (g : Nat → Prop) (t : Nat) (σ : CS) (r : RS) : Prop := r.1.1 = 0 ∧ r.2.2 = (0, 0) ∧ ∃ σ1, PFl σ σ1 ∧ Mk g t σ1 4 (r.1.2, r.2.1)
theorem c_put (hl : uN (σ.1 1203) ≤ 10400) : Tm (fun k => y_X6_put k 0 L σ) (fun r => PFl σ r.2 ∧ uN (r.2.1 1203) ≤ 10400) := by
  refine Tm_suc (fun k => by rw [y_X6_put]) ?_
  refine Tm_ite (fun _ => ?_) (fun c => ?_)
  · refine Tm_suc (fun k => by rw [y_X6_put]) ?_
    exact Tm_some ⟨PFl_r σ, hl⟩
  · rw [u_le (by decide) (by omega)] at c
    have c' : uN (σ.1 1203) < 10400 := Nat.lt_of_not_le c
    refine Tm_chk (u_in c' (by decide)) ?_
    refine Tm_suc (fun k => by rw [y_X6_put]) ?_
    refine Tm_some ⟨PFl_t (PFl_c (PFc_A σ (k := 13) (by decide) _ _)) (PFl_l _ _), ?_⟩
    show uN (σ.1 1203 + 1) ≤ 10400
    rw [u_inc (by omega)]
    omega
theorem c_writeBytes (h : HQ g l t σ) (hl : uN (σ.1 1203) ≤ 10400) (hx : Gv g (L.1 1)) (hk : kdC (σ.2.2.1 3) (L.1 1) = 4) : Tm (fun k => y_X6_writeBytes k 0 L σ) (fun r => PFl σ r.2 ∧ uN (r.2.1 1203) ≤ 10400) := by
  refine Tm_suc (fun k => by rw [y_X6_writeBytes]) ?_
  refine Tm_ocE (c_length h hx) ?_
  have ll := lnC_lt (σ.2.2.1 3) (L.1 1)
  have e1 : uN (nI (lnC (σ.2.2.1 3) (L.1 1))) = lnC (σ.2.2.1 3) (L.1 1) := u_n (by omega)
  have e2 : uN (Int32.ofNat 10400 - σ.1 1203) = 10400 - uN (σ.1 1203) := by
    rw [u_sub (by show _ ≤ 10400; exact hl)]; rfl
  have mn : uN (if Int32.ofNat 10400 - σ.1 1203 < nI (lnC (σ.2.2.1 3) (L.1 1)) then Int32.ofNat 10400 - σ.1 1203 else nI (lnC (σ.2.2.1 3) (L.1 1))) ≤ lnC (σ.2.2.1 3) (L.1 1) ∧ uN (if Int32.ofNat 10400 - σ.1 1203 < nI (lnC (σ.2.2.1 3) (L.1 1)) then Int32.ofNat 10400 - σ.1 1203 else nI (lnC (σ.2.2.1 3) (L.1 1))) ≤ 10400 - uN (σ.1 1203) := by
    split
    · rename_i c
      rw [u_ltn (by omega) (by omega)] at c
      omega
    · rename_i c
      rw [u_ltn (by omega) (by omega)] at c
      omega
  refine Tm_oc (c_copyBytes13 h hx ?_ ?_ ?_) (fun r hr => ?_)
  · show uN (if Int32.ofNat 10400 - σ.1 1203 < nI (lnC (σ.2.2.1 3) (L.1 1)) then Int32.ofNat 10400 - σ.1 1203 else nI (lnC (σ.2.2.1 3) (L.1 1))) ≤ _
    omega
  · show uN (σ.1 1203) ≤ _
    omega
  · intro c
    have c' : uN (L.1 1) < 2147483648 := c
    have k4 : hdK (uN (σ.2.2.1 3 (uN (L.1 1)))) = 4 := by
      unfold kdC at hk
      rw [if_pos c'] at hk
      exact hk
    have el : lnC (σ.2.2.1 3) (L.1 1) = hdL (uN (σ.2.2.1 3 (uN (L.1 1)))) := if_pos c'
    refine ⟨k4, ?_⟩
    show 0 + uN (if Int32.ofNat 10400 - σ.1 1203 < nI (lnC (σ.2.2.1 3) (L.1 1)) then Int32.ofNat 10400 - σ.1 1203 else nI (lnC (σ.2.2.1 3) (L.1 1))) ≤ hdL (uN (σ.2.2.1 3 (uN (L.1 1))))
    omega
  · obtain ⟨r1, f, r2⟩ := hr
    refine Tm_some ⟨?_, ?_⟩
    · rw [r2]
      exact PFl_t (PFl_c (PFc_F σ (k := 13) (by decide) f)) (PFl_l _ _)
    · show uN r.1 ≤ 10400
      rw [r1]
      show uN (σ.1 1203 + (if Int32.ofNat 10400 - σ.1 1203 < nI (lnC (σ.2.2.1 3) (L.1 1)) then Int32.ofNat 10400 - σ.1 1203 else nI (lnC (σ.2.2.1 3) (L.1 1)))) ≤ 10400
      rw [u_add (by omega)]
      omega
theorem c_madeString (h : HQ g l t σ) (hl : uN (σ.1 1203) ≤ 10400) : Tm (fun k => y_X6_madeString k 0 L σ) (Mk g t σ 4) := by
  refine Tm_suc (fun k => by rw [y_X6_madeString]) ?_
  refine Tm_oc (c_makeString13 h (fun _ _ => ?_)) (fun r hr => Tm_some hr)
  show 0 + uN (σ.1 1203) ≤ 10400
  omega
theorem c_writeWord14 (hl : uN (σ.1 1203) ≤ 10400) : Tm (fun k => f_X6_writeWord__ek14 k 0 L σ) (POc σ) := by
  have b1 : ∀ (m : Nat) (L' : LV) (σ' : CS), PFl σ σ' → uN (σ'.1 1203) ≤ 10400 → uN (L'.1 2) + m = 2 → Tm (fun k => f_X6_writeWord__ek14 k 1 L' σ') (POc σ) := by
    intro m
    induction m with
    | zero =>
      intro L' σ' w q a2
      refine Tm_suc (fun k => by rw [f_X6_writeWord__ek14]) ?_
      refine Tm_yes (by rw [u_le (by decide) (by omega)]; show 2 ≤ _; omega) ?_
      refine Tm_suc (fun k => by rw [f_X6_writeWord__ek14]) ?_
      exact Tm_some ⟨rfl, rfl, w, q⟩
    | succ m ih =>
      intro L' σ' w q a2
      refine Tm_suc (fun k => by rw [f_X6_writeWord__ek14]) ?_
      refine Tm_ite (fun c => absurd c (by rw [u_le (by decide) (by omega)]; show ¬ 2 ≤ _; omega)) (fun _ => ?_)
      refine Tm_chk ⟨by rw [u_neg]; omega, by rw [u_cl (by omega)]; omega⟩ ?_
      refine Tm_op (c_put q) (fun r hr => ?_)
      refine ih _ _ (PFl_t w hr.1) hr.2 ?_
      show uN (L'.1 2 + 1) + m = 2
      rw [u_inc (by omega)]; omega
  refine Tm_suc (fun k => by rw [f_X6_writeWord__ek14]) ?_
  exact b1 2 _ σ (PFl_r σ) hl rfl
theorem c_writeWord16 (hl : uN (σ.1 1203) ≤ 10400) : Tm (fun k => f_X6_writeWord__ek16 k 0 L σ) (POc σ) := by
  have b1 : ∀ (m : Nat) (L' : LV) (σ' : CS), PFl σ σ' → uN (σ'.1 1203) ≤ 10400 → uN (L'.1 2) + m = 4 → Tm (fun k => f_X6_writeWord__ek16 k 1 L' σ') (POc σ) := by
    intro m
    induction m with
    | zero =>
      intro L' σ' w q a2
      refine Tm_suc (fun k => by rw [f_X6_writeWord__ek16]) ?_
      refine Tm_yes (by rw [u_le (by decide) (by omega)]; show 4 ≤ _; omega) ?_
      refine Tm_suc (fun k => by rw [f_X6_writeWord__ek16]) ?_
      exact Tm_some ⟨rfl, rfl, w, q⟩
    | succ m ih =>
      intro L' σ' w q a2
      refine Tm_suc (fun k => by rw [f_X6_writeWord__ek16]) ?_
      refine Tm_ite (fun c => absurd c (by rw [u_le (by decide) (by omega)]; show ¬ 4 ≤ _; omega)) (fun _ => ?_)
      refine Tm_chk ⟨by rw [u_neg]; omega, by rw [u_cl (by omega)]; omega⟩ ?_
      refine Tm_op (c_put q) (fun r hr => ?_)
      refine ih _ _ (PFl_t w hr.1) hr.2 ?_
      show uN (L'.1 2 + 1) + m = 4
      rw [u_inc (by omega)]; omega
  refine Tm_suc (fun k => by rw [f_X6_writeWord__ek16]) ?_
  exact b1 4 _ σ (PFl_r σ) hl rfl
theorem c_writeWord18 (hl : uN (σ.1 1203) ≤ 10400) : Tm (fun k => f_X6_writeWord__ek18 k 0 L σ) (POc σ) := by
  have b1 : ∀ (m : Nat) (L' : LV) (σ' : CS), PFl σ σ' → uN (σ'.1 1203) ≤ 10400 → uN (L'.1 2) + m = 5 → Tm (fun k => f_X6_writeWord__ek18 k 1 L' σ') (POc σ) := by
    intro m
    induction m with
    | zero =>
      intro L' σ' w q a2
      refine Tm_suc (fun k => by rw [f_X6_writeWord__ek18]) ?_
      refine Tm_yes (by rw [u_le (by decide) (by omega)]; show 5 ≤ _; omega) ?_
      refine Tm_suc (fun k => by rw [f_X6_writeWord__ek18]) ?_
      exact Tm_some ⟨rfl, rfl, w, q⟩
    | succ m ih =>
      intro L' σ' w q a2
      refine Tm_suc (fun k => by rw [f_X6_writeWord__ek18]) ?_
      refine Tm_ite (fun c => absurd c (by rw [u_le (by decide) (by omega)]; show ¬ 5 ≤ _; omega)) (fun _ => ?_)
      refine Tm_chk ⟨by rw [u_neg]; omega, by rw [u_cl (by omega)]; omega⟩ ?_
      refine Tm_op (c_put q) (fun r hr => ?_)
      refine ih _ _ (PFl_t w hr.1) hr.2 ?_
      show uN (L'.1 2 + 1) + m = 5
      rw [u_inc (by omega)]; omega
  refine Tm_suc (fun k => by rw [f_X6_writeWord__ek18]) ?_
  exact b1 5 _ σ (PFl_r σ) hl rfl
theorem c_writeWord2 (hl : uN (σ.1 1203) ≤ 10400) : Tm (fun k => f_X6_writeWord__ek2 k 0 L σ) (POc σ) := by
  have b1 : ∀ (m : Nat) (L' : LV) (σ' : CS), PFl σ σ' → uN (σ'.1 1203) ≤ 10400 → uN (L'.1 2) + m = 5 → Tm (fun k => f_X6_writeWord__ek2 k 1 L' σ') (POc σ) := by
    intro m
    induction m with
    | zero =>
      intro L' σ' w q a2
      refine Tm_suc (fun k => by rw [f_X6_writeWord__ek2]) ?_
      refine Tm_yes (by rw [u_le (by decide) (by omega)]; show 5 ≤ _; omega) ?_
      refine Tm_suc (fun k => by rw [f_X6_writeWord__ek2]) ?_
      exact Tm_some ⟨rfl, rfl, w, q⟩
    | succ m ih =>
      intro L' σ' w q a2
      refine Tm_suc (fun k => by rw [f_X6_writeWord__ek2]) ?_
      refine Tm_ite (fun c => absurd c (by rw [u_le (by decide) (by omega)]; show ¬ 5 ≤ _; omega)) (fun _ => ?_)
      refine Tm_chk ⟨by rw [u_neg]; omega, by rw [u_cl (by omega)]; omega⟩ ?_
      refine Tm_op (c_put q) (fun r hr => ?_)
      refine ih _ _ (PFl_t w hr.1) hr.2 ?_
      show uN (L'.1 2 + 1) + m = 5
      rw [u_inc (by omega)]; omega
  refine Tm_suc (fun k => by rw [f_X6_writeWord__ek2]) ?_
  exact b1 5 _ σ (PFl_r σ) hl rfl
theorem c_writeWord4 (hl : uN (σ.1 1203) ≤ 10400) : Tm (fun k => f_X6_writeWord__ek4 k 0 L σ) (POc σ) := by
  have b1 : ∀ (m : Nat) (L' : LV) (σ' : CS), PFl σ σ' → uN (σ'.1 1203) ≤ 10400 → uN (L'.1 2) + m = 5 → Tm (fun k => f_X6_writeWord__ek4 k 1 L' σ') (POc σ) := by
    intro m
    induction m with
    | zero =>
      intro L' σ' w q a2
      refine Tm_suc (fun k => by rw [f_X6_writeWord__ek4]) ?_
      refine Tm_yes (by rw [u_le (by decide) (by omega)]; show 5 ≤ _; omega) ?_
      refine Tm_suc (fun k => by rw [f_X6_writeWord__ek4]) ?_
      exact Tm_some ⟨rfl, rfl, w, q⟩
    | succ m ih =>
      intro L' σ' w q a2
      refine Tm_suc (fun k => by rw [f_X6_writeWord__ek4]) ?_
      refine Tm_ite (fun c => absurd c (by rw [u_le (by decide) (by omega)]; show ¬ 5 ≤ _; omega)) (fun _ => ?_)
      refine Tm_chk ⟨by rw [u_neg]; omega, by rw [u_cl (by omega)]; omega⟩ ?_
      refine Tm_op (c_put q) (fun r hr => ?_)
      refine ih _ _ (PFl_t w hr.1) hr.2 ?_
      show uN (L'.1 2 + 1) + m = 5
      rw [u_inc (by omega)]; omega
  refine Tm_suc (fun k => by rw [f_X6_writeWord__ek4]) ?_
  exact b1 5 _ σ (PFl_r σ) hl rfl
theorem c_writeWord6 (hl : uN (σ.1 1203) ≤ 10400) : Tm (fun k => f_X6_writeWord__ek6 k 0 L σ) (POc σ) := by
  have b1 : ∀ (m : Nat) (L' : LV) (σ' : CS), PFl σ σ' → uN (σ'.1 1203) ≤ 10400 → uN (L'.1 2) + m = 4 → Tm (fun k => f_X6_writeWord__ek6 k 1 L' σ') (POc σ) := by
    intro m
    induction m with
    | zero =>
      intro L' σ' w q a2
      refine Tm_suc (fun k => by rw [f_X6_writeWord__ek6]) ?_
      refine Tm_yes (by rw [u_le (by decide) (by omega)]; show 4 ≤ _; omega) ?_
      refine Tm_suc (fun k => by rw [f_X6_writeWord__ek6]) ?_
      exact Tm_some ⟨rfl, rfl, w, q⟩
    | succ m ih =>
      intro L' σ' w q a2
      refine Tm_suc (fun k => by rw [f_X6_writeWord__ek6]) ?_
      refine Tm_ite (fun c => absurd c (by rw [u_le (by decide) (by omega)]; show ¬ 4 ≤ _; omega)) (fun _ => ?_)
      refine Tm_chk ⟨by rw [u_neg]; omega, by rw [u_cl (by omega)]; omega⟩ ?_
      refine Tm_op (c_put q) (fun r hr => ?_)
      refine ih _ _ (PFl_t w hr.1) hr.2 ?_
      show uN (L'.1 2 + 1) + m = 4
      rw [u_inc (by omega)]; omega
  refine Tm_suc (fun k => by rw [f_X6_writeWord__ek6]) ?_
  exact b1 4 _ σ (PFl_r σ) hl rfl
theorem c_writeWord8 (hl : uN (σ.1 1203) ≤ 10400) : Tm (fun k => f_X6_writeWord__ek8 k 0 L σ) (POc σ) := by
  have b1 : ∀ (m : Nat) (L' : LV) (σ' : CS), PFl σ σ' → uN (σ'.1 1203) ≤ 10400 → uN (L'.1 2) + m = 6 → Tm (fun k => f_X6_writeWord__ek8 k 1 L' σ') (POc σ) := by
    intro m
    induction m with
    | zero =>
      intro L' σ' w q a2
      refine Tm_suc (fun k => by rw [f_X6_writeWord__ek8]) ?_
      refine Tm_yes (by rw [u_le (by decide) (by omega)]; show 6 ≤ _; omega) ?_
      refine Tm_suc (fun k => by rw [f_X6_writeWord__ek8]) ?_
      exact Tm_some ⟨rfl, rfl, w, q⟩
    | succ m ih =>
      intro L' σ' w q a2
      refine Tm_suc (fun k => by rw [f_X6_writeWord__ek8]) ?_
      refine Tm_ite (fun c => absurd c (by rw [u_le (by decide) (by omega)]; show ¬ 6 ≤ _; omega)) (fun _ => ?_)
      refine Tm_chk ⟨by rw [u_neg]; omega, by rw [u_cl (by omega)]; omega⟩ ?_
      refine Tm_op (c_put q) (fun r hr => ?_)
      refine ih _ _ (PFl_t w hr.1) hr.2 ?_
      show uN (L'.1 2 + 1) + m = 6
      rw [u_inc (by omega)]; omega
  refine Tm_suc (fun k => by rw [f_X6_writeWord__ek8]) ?_
  exact b1 6 _ σ (PFl_r σ) hl rfl
theorem c_writeWord10 (hl : uN (σ.1 1203) ≤ 10400) : Tm (fun k => f_X6_writeWord__ek10 k 0 L σ) (POc σ) := by
  have b1 : ∀ (m : Nat) (L' : LV) (σ' : CS), PFl σ σ' → uN (σ'.1 1203) ≤ 10400 → uN (L'.1 2) + m = 5 → Tm (fun k => f_X6_writeWord__ek10 k 1 L' σ') (POc σ) := by
    intro m
    induction m with
    | zero =>
      intro L' σ' w q a2
      refine Tm_suc (fun k => by rw [f_X6_writeWord__ek10]) ?_
      refine Tm_yes (by rw [u_le (by decide) (by omega)]; show 5 ≤ _; omega) ?_
      refine Tm_suc (fun k => by rw [f_X6_writeWord__ek10]) ?_
      exact Tm_some ⟨rfl, rfl, w, q⟩
    | succ m ih =>
      intro L' σ' w q a2
      refine Tm_suc (fun k => by rw [f_X6_writeWord__ek10]) ?_
      refine Tm_ite (fun c => absurd c (by rw [u_le (by decide) (by omega)]; show ¬ 5 ≤ _; omega)) (fun _ => ?_)
      refine Tm_chk ⟨by rw [u_neg]; omega, by rw [u_cl (by omega)]; omega⟩ ?_
      refine Tm_op (c_put q) (fun r hr => ?_)
      refine ih _ _ (PFl_t w hr.1) hr.2 ?_
      show uN (L'.1 2 + 1) + m = 5
      rw [u_inc (by omega)]; omega
  refine Tm_suc (fun k => by rw [f_X6_writeWord__ek10]) ?_
  exact b1 5 _ σ (PFl_r σ) hl rfl
theorem c_writeWord12 (hl : uN (σ.1 1203) ≤ 10400) : Tm (fun k => f_X6_writeWord__ek12 k 0 L σ) (POc σ) := by
  have b1 : ∀ (m : Nat) (L' : LV) (σ' : CS), PFl σ σ' → uN (σ'.1 1203) ≤ 10400 → uN (L'.1 2) + m = 3 → Tm (fun k => f_X6_writeWord__ek12 k 1 L' σ') (POc σ) := by
    intro m
    induction m with
    | zero =>
      intro L' σ' w q a2
      refine Tm_suc (fun k => by rw [f_X6_writeWord__ek12]) ?_
      refine Tm_yes (by rw [u_le (by decide) (by omega)]; show 3 ≤ _; omega) ?_
      refine Tm_suc (fun k => by rw [f_X6_writeWord__ek12]) ?_
      exact Tm_some ⟨rfl, rfl, w, q⟩
    | succ m ih =>
      intro L' σ' w q a2
      refine Tm_suc (fun k => by rw [f_X6_writeWord__ek12]) ?_
      refine Tm_ite (fun c => absurd c (by rw [u_le (by decide) (by omega)]; show ¬ 3 ≤ _; omega)) (fun _ => ?_)
      refine Tm_chk ⟨by rw [u_neg]; omega, by rw [u_cl (by omega)]; omega⟩ ?_
      refine Tm_op (c_put q) (fun r hr => ?_)
      refine ih _ _ (PFl_t w hr.1) hr.2 ?_
      show uN (L'.1 2 + 1) + m = 3
      rw [u_inc (by omega)]; omega
  refine Tm_suc (fun k => by rw [f_X6_writeWord__ek12]) ?_
  exact b1 3 _ σ (PFl_r σ) hl rfl
theorem c_word2 (h : HQ g l t σ) : Tm (fun k => f_X6_word__ek2 k 0 L σ) (WO g t σ) := by
  refine Tm_suc (fun k => by rw [f_X6_word__ek2]) ?_
  refine Tm_oxz (c_writeWord2 (by show uN 0 ≤ 10400; decide)) (fun r hr => ⟨hr.1, hr.2.1⟩) (fun r hr => ?_)
  have w := PFl_t (PFl_l σ 0) hr.2.2.1
  refine Tm_op (c_madeString (HQ_L h w) hr.2.2.2) (fun r2 h2 => ?_)
  exact Tm_some ⟨rfl, rfl, r.2.1, w, h2⟩
theorem c_word4 (h : HQ g l t σ) : Tm (fun k => f_X6_word__ek4 k 0 L σ) (WO g t σ) := by
  refine Tm_suc (fun k => by rw [f_X6_word__ek4]) ?_
  refine Tm_oxz (c_writeWord4 (by show uN 0 ≤ 10400; decide)) (fun r hr => ⟨hr.1, hr.2.1⟩) (fun r hr => ?_)
  have w := PFl_t (PFl_l σ 0) hr.2.2.1
  refine Tm_op (c_madeString (HQ_L h w) hr.2.2.2) (fun r2 h2 => ?_)
  exact Tm_some ⟨rfl, rfl, r.2.1, w, h2⟩
theorem c_word6 (h : HQ g l t σ) : Tm (fun k => f_X6_word__ek6 k 0 L σ) (WO g t σ) := by
  refine Tm_suc (fun k => by rw [f_X6_word__ek6]) ?_
  refine Tm_oxz (c_writeWord6 (by show uN 0 ≤ 10400; decide)) (fun r hr => ⟨hr.1, hr.2.1⟩) (fun r hr => ?_)
  have w := PFl_t (PFl_l σ 0) hr.2.2.1
  refine Tm_op (c_madeString (HQ_L h w) hr.2.2.2) (fun r2 h2 => ?_)
  exact Tm_some ⟨rfl, rfl, r.2.1, w, h2⟩
theorem c_word8 (h : HQ g l t σ) : Tm (fun k => f_X6_word__ek8 k 0 L σ) (WO g t σ) := by
  refine Tm_suc (fun k => by rw [f_X6_word__ek8]) ?_
  refine Tm_oxz (c_writeWord8 (by show uN 0 ≤ 10400; decide)) (fun r hr => ⟨hr.1, hr.2.1⟩) (fun r hr => ?_)
  have w := PFl_t (PFl_l σ 0) hr.2.2.1
  refine Tm_op (c_madeString (HQ_L h w) hr.2.2.2) (fun r2 h2 => ?_)
  exact Tm_some ⟨rfl, rfl, r.2.1, w, h2⟩
theorem c_word10 (h : HQ g l t σ) : Tm (fun k => f_X6_word__ek10 k 0 L σ) (WO g t σ) := by
  refine Tm_suc (fun k => by rw [f_X6_word__ek10]) ?_
  refine Tm_oxz (c_writeWord10 (by show uN 0 ≤ 10400; decide)) (fun r hr => ⟨hr.1, hr.2.1⟩) (fun r hr => ?_)
  have w := PFl_t (PFl_l σ 0) hr.2.2.1
  refine Tm_op (c_madeString (HQ_L h w) hr.2.2.2) (fun r2 h2 => ?_)
  exact Tm_some ⟨rfl, rfl, r.2.1, w, h2⟩
theorem c_word12 (h : HQ g l t σ) : Tm (fun k => f_X6_word__ek12 k 0 L σ) (WO g t σ) := by
  refine Tm_suc (fun k => by rw [f_X6_word__ek12]) ?_
  refine Tm_oxz (c_writeWord12 (by show uN 0 ≤ 10400; decide)) (fun r hr => ⟨hr.1, hr.2.1⟩) (fun r hr => ?_)
  have w := PFl_t (PFl_l σ 0) hr.2.2.1
  refine Tm_op (c_madeString (HQ_L h w) hr.2.2.2) (fun r2 h2 => ?_)
  exact Tm_some ⟨rfl, rfl, r.2.1, w, h2⟩
theorem c_word14 (h : HQ g l t σ) : Tm (fun k => f_X6_word__ek14 k 0 L σ) (WO g t σ) := by
  refine Tm_suc (fun k => by rw [f_X6_word__ek14]) ?_
  refine Tm_oxz (c_writeWord14 (by show uN 0 ≤ 10400; decide)) (fun r hr => ⟨hr.1, hr.2.1⟩) (fun r hr => ?_)
  have w := PFl_t (PFl_l σ 0) hr.2.2.1
  refine Tm_op (c_madeString (HQ_L h w) hr.2.2.2) (fun r2 h2 => ?_)
  exact Tm_some ⟨rfl, rfl, r.2.1, w, h2⟩
theorem w1_0 (k d : Nat) (L : LV) (σ : CS) : f_F1 (k + 1) d 0 0 L σ = (op (y_X1_kind k 0 (lI lZ 1 ((L.1 1))) σ) (fun r1 => if r1.1 = (1 : Int32) then (f_F1 k d 0 1 L r1.2) else (if r1.1 = (2 : Int32) then (f_F1 k d 0 2 L r1.2) else (if r1.1 = (3 : Int32) then (f_F1 k d 0 3 L r1.2) else (if r1.1 = (4 : Int32) then (f_F1 k d 0 4 L r1.2) else (if r1.1 = (5 : Int32) then (f_F1 k d 0 5 L r1.2) else (if r1.1 = (6 : Int32) then (f_F1 k d 0 6 L r1.2) else (f_F1 k d 0 7 L r1.2)))))))) := rfl
theorem w1_1 (k d : Nat) (L : LV) (σ : CS) : f_F1 (k + 1) d 0 1 L σ = (if ((L.1 1)) = ((-1879048191)) then (f_F1 k d 0 9 L σ) else (f_F1 k d 0 8 L σ)) := rfl
theorem w1_2 (k d : Nat) (L : LV) (σ : CS) : f_F1 (k + 1) d 0 2 L σ = (op (y_X10_writeDigits__a13 k 0 (lI (lI lZ 1 ((L.1 1))) 3 ((σ.1 1203))) σ) (fun r1 => f_F1 k d 0 10 L (uI r1.2 1203 r1.1))) := rfl
theorem w1_3 (k d : Nat) (L : LV) (σ : CS) : f_F1 (k + 1) d 0 3 L σ = (op (y_X6_put k 0 (lI lZ 1 35) σ) (fun r1 => op (y_X10_small k 0 (lI lZ 0 ((((L.1 1)) &&& 268435455))) r1.2) (fun r2 => op (y_X10_writeDigits__a13 k 0 (lI (lI lZ 1 r2.1) 3 ((r2.2.1 1203))) r2.2) (fun r3 => f_F1 k d 0 10 L (uI r3.2 1203 r3.1))))) := rfl
theorem w1_4 (k d : Nat) (L : LV) (σ : CS) : f_F1 (k + 1) d 0 4 L σ = (op (y_X6_put k 0 (lI lZ 1 34) σ) (fun r1 => op (y_X6_writeBytes k 0 (lI lZ 1 ((L.1 1))) r1.2) (fun r2 => op (y_X6_put k 0 (lI lZ 1 34) r2.2) (fun r3 => f_F1 k d 0 10 L r3.2)))) := rfl
theorem w1_5 (k d : Nat) (L : LV) (σ : CS) : f_F1 (k + 1) d 0 5 L σ = (of d (fun e1 => ox (f_F1 k e1 1 0 (lI (lI (lI lZ 1 ((L.1 1))) 2 91) 3 93) σ) (fun r1 => f_F1 k d 0 10 L r1.2.1))) := rfl
theorem w1_6 (k d : Nat) (L : LV) (σ : CS) : f_F1 (k + 1) d 0 6 L σ = (of d (fun e1 => ox (f_F1 k e1 1 0 (lI (lI (lI lZ 1 ((L.1 1))) 2 123) 3 125) σ) (fun r1 => f_F1 k d 0 10 L r1.2.1))) := rfl
theorem w1_7 (k d : Nat) (L : LV) (σ : CS) : f_F1 (k + 1) d 0 7 L σ = (ox (f_X6_writeWord__ek14 k 0 lZ σ) (fun r1 => f_F1 k d 0 10 L r1.2.1)) := rfl
theorem w1_8 (k d : Nat) (L : LV) (σ : CS) : f_F1 (k + 1) d 0 8 L σ = (f_F1 k d 0 11 L σ) := rfl
theorem w1_9 (k d : Nat) (L : LV) (σ : CS) : f_F1 (k + 1) d 0 9 L σ = (ox (f_X6_writeWord__ek16 k 0 lZ σ) (fun r1 => f_F1 k d 0 10 L r1.2.1)) := rfl
theorem w1_10 (k d : Nat) (L : LV) (σ : CS) : f_F1 (k + 1) d 0 10 L σ = (some ((0, 0), σ, (0, 0))) := rfl
theorem w1_11 (k d : Nat) (L : LV) (σ : CS) : f_F1 (k + 1) d 0 11 L σ = (ox (f_X6_writeWord__ek18 k 0 lZ σ) (fun r1 => f_F1 k d 0 10 L r1.2.1)) := rfl
theorem w2_0 (k d : Nat) (L : LV) (σ : CS) : f_F1 (k + 1) d 1 0 L σ = (op (y_X6_put k 0 (lI lZ 1 ((L.1 2))) σ) (fun r1 => op (y_X1_length k 0 (lI lZ 1 ((L.1 1))) r1.2) (fun r2 => f_F1 k d 1 1 (lI (lI L 4 r2.1) 5 0) r2.2))) := rfl
theorem w2_1 (k d : Nat) (L : LV) (σ : CS) : f_F1 (k + 1) d 1 1 L σ = (if ((L.1 4)) ≤ ((L.1 5)) then (f_F1 k d 1 2 L σ) else (if ((L.1 5)) ≤ 0 then (f_F1 k d 1 3 L σ) else (op (y_X6_put k 0 (lI lZ 1 44) σ) (fun r3 => op (y_X6_put k 0 (lI lZ 1 32) r3.2) (fun r4 => f_F1 k d 1 3 L r4.2))))) := rfl
theorem w2_2 (k d : Nat) (L : LV) (σ : CS) : f_F1 (k + 1) d 1 2 L σ = (op (y_X6_put k 0 (lI lZ 1 ((L.1 3))) σ) (fun r1 => some ((0, 0), r1.2, (0, 0)))) := rfl
theorem w2_3 (k d : Nat) (L : LV) (σ : CS) : f_F1 (k + 1) d 1 3 L σ = (op (y_X1_member k 0 (lI (lI lZ 1 ((L.1 1))) 2 ((L.1 5))) σ) (fun r1 => of d (fun e2 => ox (f_F1 k e2 0 0 (lI lZ 1 r1.1) r1.2) (fun r2 => f_F1 k d 1 1 (lI L 5 ((((L.1 5)) + 1))) r2.2.1)))) := rfl
/-- write of values no higher than that -/
def PWr (g : Nat → Prop) (l : List Nat) (t d : Nat) : Prop := ∀ (L : LV) (σ : CS), HQ g l t σ → uN (σ.1 1203) ≤ 10400 → Gv g (L.1 1) → 2 * hgt (σ.2.2.1 3) (L.1 1) ≤ d → Tm (fun k => f_F1 k d 0 0 L σ) (POc σ)
theorem wr_row {e : Nat} (ih : PWr g l t e) (h : HQ g l t σ) (hl : uN (σ.1 1203) ≤ 10400) (hx : Gv g (L.1 1)) (cx : uN (L.1 1) < 2147483648) (kx : 5 ≤ hdK (uN (σ.2.2.1 3 (uN (L.1 1))))) (hd : 2 * hgt (σ.2.2.1 3) (L.1 1) ≤ e + 2) : Tm (fun k => f_F1 k (e + 1) 1 0 L σ) (POc σ) := by
  have ll := lnC_lt (σ.2.2.1 3) (L.1 1)
  have el : lnC (σ.2.2.1 3) (L.1 1) = hdL (uN (σ.2.2.1 3 (uN (L.1 1)))) := if_pos cx
  have fx := (HQ_c h (Gv_c hx cx).2).2.2.2.2.2.2.2.2.2.1 kx
  have b1 : ∀ (m : Nat) (L' : LV) (σ' : CS), PFl σ σ' → uN (σ'.1 1203) ≤ 10400 → L'.1 1 = L.1 1 → L'.1 4 = nI (lnC (σ.2.2.1 3) (L.1 1)) → uN (L'.1 5) + m = lnC (σ.2.2.1 3) (L.1 1) → Tm (fun k => f_F1 k (e + 1) 1 1 L' σ') (POc σ) := by
    intro m
    induction m with
    | zero =>
      intro L' σ' w q a1 a4 a5
      refine Tm_suc (fun k => w2_1 k _ _ _) ?_
      refine Tm_yes (by rw [a4, u_le (by rw [u_n (by omega)]; omega) (by omega), u_n (by omega)]; omega) ?_
      refine Tm_suc (fun k => w2_2 k _ _ _) ?_
      refine Tm_op (c_put q) (fun r hr => ?_)
      exact Tm_some ⟨rfl, rfl, PFl_t w hr.1, hr.2⟩
    | succ m jh =>
      intro L' σ' w q a1 a4 a5
      have b3 : ∀ (σ2 : CS), PFl σ σ2 → uN (σ2.1 1203) ≤ 10400 → Tm (fun k => f_F1 k (e + 1) 1 3 L' σ2) (POc σ) := by
        intro σ2 w2 q2
        have r3 : σ2.2.2.1 3 = σ.2.2.1 3 := w2.2.2.1 3 (by decide)
        have hx2 : Gv g (L'.1 1) := by rw [a1]; exact hx
        have k2 : uN (L'.1 1) < 2147483648 → 5 ≤ kdC (σ2.2.2.1 3) (L'.1 1) := by
          intro _
          rw [r3, a1]
          unfold kdC
          rw [if_pos cx]
          exact kx
        refine Tm_suc (fun k => w2_3 k _ _ _) ?_
        refine Tm_op (c_member (HQ_L h w2) hx2 k2) (fun r hr => ?_)
        rw [hr]
        refine Tm_of ?_
        have em : mbC (σ2.2.2.1 3) (L'.1 1) (L'.1 5) = σ.2.2.1 3 (uN (L.1 1) + 1 + uN (L'.1 5)) := by
          rw [r3, a1]
          unfold mbC
          rw [if_pos ⟨cx, by omega⟩]
        have mx := fx.2.2 (uN (L'.1 5)) (by omega)
        refine Tm_oxz (ih _ σ2 (HQ_L h w2) q2 ?_ ?_) (fun r hr => ⟨hr.1, hr.2.1⟩) (fun r hr => ?_)
        · show Gv g (mbC (σ2.2.2.1 3) (L'.1 1) (L'.1 5))
          rw [em]; exact mx.1
        · show 2 * hgt (σ2.2.2.1 3) (mbC (σ2.2.2.1 3) (L'.1 1) (L'.1 5)) ≤ e
          rw [em, r3]
          have z := mx.2
          unfold hgt at hd
          rw [if_pos cx] at hd
          omega
        · refine jh _ _ (PFl_t w2 hr.2.2.1) hr.2.2.2 ?_ ?_ ?_
          · exact a1
          · exact a4
          · show uN (L'.1 5 + 1) + m = _
            rw [u_inc (by omega)]; omega
      refine Tm_suc (fun k => w2_1 k _ _ _) ?_
      refine Tm_ite (fun c => absurd c (by rw [a4, u_le (by rw [u_n (by omega)]; omega) (by omega), u_n (by omega)]; omega)) (fun _ => ?_)
      refine Tm_ite (fun _ => b3 _ w q) (fun _ => ?_)
      refine Tm_op (c_put q) (fun r hr => ?_)
      refine Tm_op (c_put hr.2) (fun r2 hr2 => ?_)
      exact b3 _ (PFl_t w (PFl_t hr.1 hr2.1)) hr2.2
  refine Tm_suc (fun k => w2_0 k _ _ _) ?_
  refine Tm_op (c_put hl) (fun r hr => ?_)
  have r3 : r.2.2.2.1 3 = σ.2.2.1 3 := hr.1.2.2.1 3 (by decide)
  refine Tm_op (c_length (HQ_L h hr.1) hx) (fun r2 h2 => ?_)
  rw [h2, r3]
  refine b1 (lnC (σ.2.2.1 3) (L.1 1)) _ _ hr.1 hr.2 ?_ ?_ ?_
  · rfl
  · rfl
  · show 0 + _ = _; omega
theorem wr_b (d : Nat) (ih : ∀ e, d = e + 2 → PWr g l t e) : PWr g l t d := by
  intro L σ h hl hx hd
  have kl := kdC_lt (σ.2.2.1 3) (L.1 1)
  have b10 : ∀ (L' : LV) (σ' : CS), PFl σ σ' → uN (σ'.1 1203) ≤ 10400 → Tm (fun k => f_F1 k d 0 10 L' σ') (POc σ) := by
    intro L' σ' w q
    refine Tm_suc (fun k => w1_10 k _ _ _) ?_
    exact Tm_some ⟨rfl, rfl, w, q⟩
  have bD : ∀ (L' : LV) (σ' : CS) (z : Int32), PFl σ σ' → uN (σ'.1 1203) ≤ 10400 → W2 g σ' z → Tm (fun k => op (y_X10_writeDigits__a13 k 0 (lI (lI lZ 1 z) 3 (σ'.1 1203)) σ') (fun r1 => f_F1 k d 0 10 L' (uI r1.2 1203 r1.1))) (POc σ) := by
    intro L' σ' z w q hz
    refine Tm_op (c_writeDigits (HQ_L h w) hz) (fun r hr => ?_)
    refine b10 _ _ (PFl_t w (PFl_t (PFl_c hr.1) (PFl_l _ _))) ?_
    show uN r.1 ≤ 10400
    exact hr.2 q
  have row : ∀ (a b : Int32), (5 ≤ kdC (σ.2.2.1 3) (L.1 1) ∧ ¬ kdC (σ.2.2.1 3) (L.1 1) = 7) → Tm (fun k => Jvm.Pilot.CSetHouseLaw_law_r6264_2ea8b6.of d (fun e1 => ox (f_F1 k e1 1 0 (lI (lI (lI lZ 1 (L.1 1)) 2 a) 3 b) σ) (fun r1 => f_F1 k d 0 10 L r1.2.1))) (POc σ) := by
    intro a b k57
    have k5 := k57.1
    have cx : uN (L.1 1) < 2147483648 := kdC_5 hx k5 k57.2
    have kx : 5 ≤ hdK (uN (σ.2.2.1 3 (uN (L.1 1)))) := by
      have q := k5
      unfold kdC at q
      rw [if_pos cx] at q
      exact q
    have h1 := hgt_k h hx cx kx
    obtain ⟨e, he⟩ : ∃ e, d = e + 2 := ⟨d - 2, by omega⟩
    subst he
    refine Tm_of (e := e + 1) ?_
    refine Tm_oxz (wr_row (ih e rfl) h hl hx cx kx hd) (fun r hr => ⟨hr.1, hr.2.1⟩) (fun r hr => ?_)
    exact b10 _ _ hr.2.2.1 hr.2.2.2
  have kk : ∀ n : Nat, n < 8 → (nI (kdC (σ.2.2.1 3) (L.1 1)) = nI n ↔ kdC (σ.2.2.1 3) (L.1 1) = n) := by
    intro n hn
    rw [u_eq, u_n (by omega), u_n (by omega)]
  refine Tm_suc (fun k => w1_0 k _ _ _) ?_
  refine Tm_op (c_kind h hx) (fun r hr => ?_)
  rw [hr]
  refine Tm_ite (fun _ => ?_) (fun _ => ?_)
  · refine Tm_suc (fun k => w1_1 k _ _ _) ?_
    refine Tm_ite (fun _ => ?_) (fun _ => ?_)
    · refine Tm_suc (fun k => w1_9 k _ _ _) ?_
      refine Tm_oxz (c_writeWord16 hl) (fun r hr => ⟨hr.1, hr.2.1⟩) (fun r hr => ?_)
      exact b10 _ _ hr.2.2.1 hr.2.2.2
    · refine Tm_suc (fun k => w1_8 k _ _ _) ?_
      refine Tm_suc (fun k => w1_11 k _ _ _) ?_
      refine Tm_oxz (c_writeWord18 hl) (fun r hr => ⟨hr.1, hr.2.1⟩) (fun r hr => ?_)
      exact b10 _ _ hr.2.2.1 hr.2.2.2
  refine Tm_ite (fun c => ?_) (fun _ => ?_)
  · refine Tm_suc (fun k => w1_2 k _ _ _) ?_
    exact bD L σ (L.1 1) (PFl_r σ) hl ⟨hx, (kk 2 (by decide)).1 c⟩
  refine Tm_ite (fun _ => ?_) (fun _ => ?_)
  · refine Tm_suc (fun k => w1_3 k _ _ _) ?_
    refine Tm_op (c_put hl) (fun r1 h1 => ?_)
    refine Tm_op c_small (fun r2 h2 => ?_)
    have e2 : r2.2 = r1.2 := h2.1
    rw [e2]
    exact bD L r1.2 r2.1 h1.1 h1.2 (W2_i _ h2.2.1 h2.2.2)
  refine Tm_ite (fun c => ?_) (fun _ => ?_)
  · refine Tm_suc (fun k => w1_4 k _ _ _) ?_
    refine Tm_op (c_put hl) (fun r1 h1 => ?_)
    have r3 : r1.2.2.2.1 3 = σ.2.2.1 3 := h1.1.2.2.1 3 (by decide)
    refine Tm_op (c_writeBytes (HQ_L h h1.1) h1.2 hx (by rw [r3]; exact (kk 4 (by decide)).1 c)) (fun r2 h2 => ?_)
    refine Tm_op (c_put h2.2) (fun r4 h4 => ?_)
    exact b10 _ _ (PFl_t h1.1 (PFl_t h2.1 h4.1)) h4.2
  refine Tm_ite (fun c => ?_) (fun _ => ?_)
  · refine Tm_suc (fun k => w1_5 k _ _ _) ?_
    exact row 91 93 (by have := (kk 5 (by decide)).1 c; omega)
  refine Tm_ite (fun c => ?_) (fun _ => ?_)
  · refine Tm_suc (fun k => w1_6 k _ _ _) ?_
    exact row 123 125 (by have := (kk 6 (by decide)).1 c; omega)
  · refine Tm_suc (fun k => w1_7 k _ _ _) ?_
    refine Tm_oxz (c_writeWord14 hl) (fun r hr => ⟨hr.1, hr.2.1⟩) (fun r hr => ?_)
    exact b10 _ _ hr.2.2.1 hr.2.2.2
theorem wr_all : ∀ d, PWr g l t d := by
  intro d
  induction d using Nat.strongRecOn with
  | _ d ih => exact wr_b d (fun e he => ih e (by omega))
theorem c_write (h : HQ g l t σ) (hl : uN (σ.1 1203) ≤ 10400) (hx : Gv g (L.1 1)) : Tm (fun k => f_X6_write k 0 L σ) (POc σ) := by
  refine wr_all 80 L σ h hl hx ?_
  unfold hgt
  split
  · rename_i c
    have f := (HQ_c h (Gv_c hx c).2).2.2.2.2.2.2.2.1.1
    omega
  · omega
theorem c_print (h : HQ g l t σ) (hx : Gv g (L.1 1)) : Tm (fun k => f_X6_print k 0 L σ) (POc σ) := by
  refine Tm_suc (fun k => by rw [f_X6_print]) ?_
  refine Tm_oxz (c_write (HQ_L h (PFl_l σ 0)) (by show uN 0 ≤ 10400; decide) hx) (fun r hr => ⟨hr.1, hr.2.1⟩) (fun r hr => ?_)
  exact Tm_some ⟨rfl, rfl, PFl_t (PFl_l σ 0) hr.2.2.1, hr.2.2.2⟩
theorem c_printPlain (h : HQ g l t σ) (hx : Gv g (L.1 1)) : Tm (fun k => f_X6_printPlain k 0 L σ) (POc σ) := by
  have kl := kdC_lt (σ.2.2.1 3) (L.1 1)
  have b2 : ∀ (L' : LV) (σ' : CS), PFl σ σ' → uN (σ'.1 1203) ≤ 10400 → Tm (fun k => f_X6_printPlain k 2 L' σ') (POc σ) := by
    intro L' σ' w q
    refine Tm_suc (fun k => by rw [f_X6_printPlain]) ?_
    exact Tm_some ⟨rfl, rfl, w, q⟩
  have h0 := HQ_L h (PFl_l σ 0)
  have q0 : uN ((uI σ 1203 0).1 1203) ≤ 10400 := by show uN 0 ≤ 10400; decide
  refine Tm_suc (fun k => by rw [f_X6_printPlain]) ?_
  refine Tm_op (c_kind h0 hx) (fun r hr => ?_)
  rw [hr]
  refine Tm_ite (fun c => ?_) (fun _ => ?_)
  · have c' : nI (kdC (σ.2.2.1 3) (L.1 1)) = 4 := c
    rw [u_eq, u_n (by omega)] at c'
    refine Tm_op (c_writeBytes h0 q0 hx c') (fun r2 h2 => ?_)
    exact b2 _ _ (PFl_t (PFl_l σ 0) h2.1) h2.2
  · refine Tm_suc (fun k => by rw [f_X6_printPlain]) ?_
    refine Tm_oxz (c_write h0 q0 hx) (fun r hr => ⟨hr.1, hr.2.1⟩) (fun r hr => ?_)
    exact b2 _ _ (PFl_t (PFl_l σ 0) hr.2.2.1) hr.2.2.2
end CRR
end JnS354
section JnS355
/-! The class: sets. -/
section CRS
variable {g g' g2 : Nat → Prop} {l l' l2 : List Nat} {t t' t2 : Nat} {σ σ' σ2 : CS} {L : LV} {x y i : Int32} {M M' : Nat → Int32}
/-- what operators may write, the heap aside -/
def AXf (σ σ' : CS) : Prop := (∀ j, ¬ (j = 404 ∨ j = 1203) → σ'.1 j = σ.1 j) ∧ σ'.2.1 = σ.2.1 ∧ (∀ k, ¬ ((5 ≤ k ∧ k ≤ 11) ∨ k = 13 ∨ (15 ≤ k ∧ k ≤ 17)) → σ'.2.2.1 k = σ.2.2.1 k) ∧ σ'.2.2.2 = σ.2.2.2
theorem AXf_r (σ : CS) : AXf σ σ := ⟨fun _ _ => rfl, rfl, fun _ _ => rfl, rfl⟩
theorem AXf_t (a : AXf σ σ') (b : AXf σ' σ2) : AXf σ σ2 := ⟨fun j hj => (b.1 j hj).trans (a.1 j hj), b.2.1.trans a.2.1, fun k hk => (b.2.2.1 k hk).trans (a.2.2.1 k hk), b.2.2.2.trans a.2.2.2⟩
theorem AXf_W (w : WF σ σ') : AXf σ σ' := ⟨fun j hj => w.1 j (fun e => hj (Or.inl e)), w.2.1, fun k hk => w.2.2.1 k (fun e => hk (Or.inl e)), w.2.2.2⟩
theorem AXf_L (w : PFl σ σ') : AXf σ σ' := ⟨w.1, w.2.1, fun k hk => w.2.2.1 k (fun e => hk (e.imp id Or.inl)), w.2.2.2⟩
theorem AXf_F (σ : CS) {k : Nat} (hk : (5 ≤ k ∧ k ≤ 11) ∨ k = 13 ∨ (15 ≤ k ∧ k ≤ 17)) (f : Nat → Int32) : AXf σ (uF σ k f) := ⟨fun _ _ => rfl, rfl, fun j hj => if_neg (fun e => hj (by rw [e]; exact hk)), rfl⟩
theorem AXf_A (σ : CS) {k : Nat} (hk : (5 ≤ k ∧ k ≤ 11) ∨ k = 13 ∨ (15 ≤ k ∧ k ≤ 17)) (i : Nat) (x : Int32) : AXf σ (uA σ k i x) := AXf_F σ hk _
theorem HQ_X (h : HQ g l t σ) (w : AXf σ σ') : HQ g l t σ' := HQ_fr h (w.1 1 (by decide)) (w.2.2.1 3 (by decide)) (by rw [w.2.2.2])
/-- what operators may write -/
def AWf (σ σ' : CS) : Prop := (∀ j, ¬ (j = 1 ∨ j = 404 ∨ j = 1203) → σ'.1 j = σ.1 j) ∧ σ'.2.1 = σ.2.1 ∧ (∀ k, ¬ (k = 3 ∨ (5 ≤ k ∧ k ≤ 11) ∨ k = 13 ∨ (15 ≤ k ∧ k ≤ 17)) → σ'.2.2.1 k = σ.2.2.1 k) ∧ σ'.2.2.2 = σ.2.2.2
theorem AWf_t (a : AWf σ σ') (b : AWf σ' σ2) : AWf σ σ2 := ⟨fun j hj => (b.1 j hj).trans (a.1 j hj), b.2.1.trans a.2.1, fun k hk => (b.2.2.1 k hk).trans (a.2.2.1 k hk), b.2.2.2.trans a.2.2.2⟩
theorem AWf_X (w : AXf σ σ') : AWf σ σ' := ⟨fun j hj => w.1 j (fun e => hj (Or.inr e)), w.2.1, fun k hk => w.2.2.1 k (fun e => hk (Or.inr e)), w.2.2.2⟩
theorem AWf_V (w : VWc σ σ') : AWf σ σ' := ⟨fun j hj => w.1 j (fun e => hj (e.imp id Or.inl)), w.2.1, fun k hk => w.2.2.1 k (fun e => hk (e.imp id Or.inl)), w.2.2.2⟩
/-- growth by an operator -/
def Ga (g : Nat → Prop) (t : Nat) (σ : CS) (g' : Nat → Prop) (l' : List Nat) (t' : Nat) (σ' : CS) : Prop := HQ g' l' t' σ' ∧ (∀ p, g p → g' p) ∧ (∀ p, p < t → σ'.2.2.1 3 p = σ.2.2.1 3 p) ∧ t ≤ t' ∧ AWf σ σ'
theorem Ga_t (a : Ga g t σ g' l' t' σ') (b : Ga g' t' σ' g2 l2 t2 σ2) : Ga g t σ g2 l2 t2 σ2 := by
  have q := a.2.2.2.1
  exact ⟨b.1, fun p hp => b.2.1 p (a.2.1 p hp), fun p hp => (b.2.2.1 p (by omega)).trans (a.2.2.1 p hp), Nat.le_trans a.2.2.2.1 b.2.2.2.1, AWf_t a.2.2.2.2 b.2.2.2.2⟩
theorem Ga_X (h : HQ g l t σ) (w : AXf σ σ') : Ga g t σ g l t σ' := ⟨HQ_X h w, fun _ z => z, fun p _ => by rw [w.2.2.1 3 (by decide)], Nat.le_refl _, AWf_X w⟩
theorem Ga_G (a : Gr g t σ g' l' t' σ') : Ga g t σ g' l' t' σ' := ⟨a.1, a.2.1, a.2.2.1, a.2.2.2.1, AWf_V a.2.2.2.2⟩
theorem kdC_ga (h : HQ g l t σ) (a : Ga g t σ g' l' t' σ') (hx : Gv g x) : kdC (σ'.2.2.1 3) x = kdC (σ.2.2.1 3) x := by
  unfold kdC
  split
  · rename_i c
    rw [a.2.2.1 _ (HQ_c h (Gv_c hx c).2).1]
  · rfl
/-- what an operator answers -/
def Va (g : Nat → Prop) (t : Nat) (σ : CS) (r : Int32 × CS) : Prop := ∃ (g' : Nat → Prop) (l' : List Nat) (t' : Nat), Ga g t σ g' l' t' r.2 ∧ (Gv g' r.1 ∨ Rw r.1)
theorem Va_V {r : Int32 × CS} {kd : Nat} (q : Vx g t σ kd r) : Va g t σ r := by
  obtain ⟨a, b, c, d, e⟩ := q
  exact ⟨a, b, c, Ga_G d, e.imp (fun z => z.1) id⟩
theorem Va_t {r : Int32 × CS} (a : Ga g t σ g' l' t' σ') (b : Va g' t' σ' r) : Va g t σ r := by
  obtain ⟨g2, l2, t2, q, z⟩ := b
  exact ⟨g2, l2, t2, Ga_t a q, z⟩
theorem Va_M {r : Int32 × CS} {kd : Nat} (h : HQ g l t σ) (w : AXf σ σ') (q : Mk g t σ' kd r) : Va g t σ r := Va_t (Ga_X h w) (Va_V (Vx_M q))
theorem Va_g (h : HQ g l t σ) (w : AXf σ σ') {v : Int32} (hv : Gv g v) : Va g t σ (v, σ') := ⟨g, l, t, Ga_X h w, Or.inl hv⟩
theorem Va_e (h : HQ g l t σ) (w : AXf σ σ') {v : Int32} (hv : Rw v) : Va g t σ (v, σ') := ⟨g, l, t, Ga_X h w, Or.inr hv⟩
theorem c_truth : Tm (fun k => y_X11_truth k 0 L σ) (fun r => r.2 = σ ∧ ∀ g, Gv g r.1) := by
  have b2 : ∀ L' : LV, (L'.1 100 = -1879048191 ∨ L'.1 100 = -1879048192) → Tm (fun k => y_X11_truth k 2 L' σ) (fun r => r.2 = σ ∧ ∀ g, Gv g r.1) := by
    intro L' d
    refine Tm_suc (fun k => by rw [y_X11_truth]) ?_
    refine Tm_some ⟨rfl, fun g => Or.inl ?_⟩
    show 2147483648 ≤ uN (L'.1 100) ∧ (uN (L'.1 100) < 3489660928 ∨ (4026531840 ≤ uN (L'.1 100) ∧ ¬ uN (L'.1 100) % 16 = 0))
    rcases d with d | d <;> rw [d] <;> decide
  refine Tm_suc (fun k => by rw [y_X11_truth]) ?_
  refine Tm_ite (fun _ => ?_) (fun _ => b2 _ (Or.inl rfl))
  refine Tm_suc (fun k => by rw [y_X11_truth]) ?_
  exact b2 _ (Or.inr rfl)
/-- a value that is no string and no whole if it is a cell -/
def Sq5 (g : Nat → Prop) (σ : CS) (x : Int32) : Prop := Gv g x ∧ (uN x < 2147483648 → 5 ≤ kdC (σ.2.2.1 3) x)
theorem Sq5_k (hx : Gv g x) (k : 5 ≤ kdC (σ.2.2.1 3) x) : Sq5 g σ x := ⟨hx, fun _ => k⟩
theorem Sq5_X (w : AXf σ σ') (h : Sq5 g σ x) : Sq5 g σ' x := ⟨h.1, by rw [w.2.2.1 3 (by decide)]; exact h.2⟩
theorem c_load0 (h : HQ g l t σ) (hx : Sq5 g σ (L.1 1)) (ha : uN (L.1 2) < 2147483648) (hb : uN (L.1 3) ≤ lnC (σ.2.2.1 3) (L.1 1)) (hc : uN (L.1 4) ≤ 2048) (hr : ∀ j, j < uN (L.1 4) → Gv g (σ.2.2.1 16 j)) : Tm (fun k => y_X0_load k 0 L σ) (fun r => ∃ f, r.2 = uF σ 16 f ∧ uN r.1 ≤ 2048 ∧ ∀ j, j < uN r.1 → Gv g (f j)) := by
  have ll := lnC_lt (σ.2.2.1 3) (L.1 1)
  have b1 : ∀ L' : LV, L'.1 4 = L.1 4 → Tm (fun k => y_X0_load k 1 L' σ) (fun r => ∃ f, r.2 = uF σ 16 f ∧ uN r.1 ≤ 2048 ∧ ∀ j, j < uN r.1 → Gv g (f j)) := by
    intro L' a4
    refine Tm_suc (fun k => by rw [y_X0_load]) ?_
    refine Tm_some ⟨σ.2.2.1 16, (uF_id σ 16).symm, ?_, ?_⟩
    · show uN (L'.1 4) ≤ _; rw [a4]; exact hc
    · show ∀ j, j < uN (L'.1 4) → _; rw [a4]; exact hr
  have eA : uN (Int32.ofNat 2048 - L.1 4) = 2048 - uN (L.1 4) := by
    rw [u_sub (by show _ ≤ 2048; exact hc)]; rfl
  refine Tm_suc (fun k => by rw [y_X0_load]) ?_
  generalize hN : (if Int32.ofNat 2048 - L.1 4 < L.1 3 - L.1 2 then Int32.ofNat 2048 - L.1 4 else L.1 3 - L.1 2) = N
  refine Tm_ite (fun _ => b1 _ rfl) (fun cN => Tm_ite (fun cx => ?_) (fun _ => b1 _ rfl))
  rw [u_nn] at cx
  have n1 : 1 ≤ uN N ∧ uN N < 2147483648 := by
    rw [i_le, u_int N] at cN
    have c' : ¬ (if uN N < 2147483648 then (uN N : Int) else (uN N : Int) - 4294967296) ≤ 0 := cN
    have := u_lt N
    split at c' <;> omega
  have n2 : uN (L.1 2) ≤ uN (L.1 3) ∧ uN N ≤ uN (L.1 3) - uN (L.1 2) ∧ uN N ≤ 2048 - uN (L.1 4) := by
    rcases Nat.lt_or_ge (uN (L.1 3)) (uN (L.1 2)) with z | z
    · have q := u_subn z ha
      exfalso
      split at hN
      · rename_i c
        rw [i_lt, u_int, u_int, if_pos (by omega), if_neg (by omega)] at c
        have := u_lt (L.1 3 - L.1 2)
        omega
      · rw [hN] at q; omega
    · have e : uN (L.1 3 - L.1 2) = uN (L.1 3) - uN (L.1 2) := u_sub z
      split at hN
      · rename_i c
        rw [u_ltn (by omega) (by omega), eA, e] at c
        rw [← hN, eA]
        omega
      · rename_i c
        rw [u_ltn (by omega) (by omega), eA, e] at c
        rw [← hN, e]
        omega
  have cg := Gv_c hx.1 cx
  have hq := HQ_c h cg.2
  have k5 := hx.2 cx
  unfold kdC at k5
  rw [if_pos cx] at k5
  have w5 := hdW_5 k5
  have el : lnC (σ.2.2.1 3) (L.1 1) = hdL (uN (σ.2.2.1 3 (uN (L.1 1)))) := if_pos cx
  have fx := hq.2.2.2.2.2.2.2.2.2.1 k5
  have e1 : uN (L.1 1 + 1 + L.1 2) = uN (L.1 1) + 1 + uN (L.1 2) := by
    rw [u_add (by rw [u_inc (by omega)]; omega), u_inc (by omega)]
  refine Tm_suc (fun k => by rw [y_X0_load]) ?_
  refine Tm_chk ⟨?_, ?_, ?_, ?_, ?_⟩ ?_
  · show ¬ L.1 1 + 1 + L.1 2 < 0
    rw [u_neg]; omega
  · show ¬ L.1 4 < 0
    rw [u_neg]; omega
  · show ¬ N < 0
    rw [u_neg]; omega
  · show (L.1 1 + 1 + L.1 2).toNatClampNeg + N.toNatClampNeg ≤ sN σ 3
    rw [u_cl (by omega), u_cl (by omega)]; omega
  · show (L.1 4).toNatClampNeg + N.toNatClampNeg ≤ 2048
    rw [u_cl (by omega), u_cl (by omega)]; omega
  refine Tm_some ⟨_, rfl, ?_, ?_⟩
  · show uN (L.1 4 + N) ≤ 2048
    rw [u_add (by omega)]; omega
  · show ∀ j, j < uN (L.1 4 + N) → Gv g (va_cpy (σ.2.2.1 3) (σ.2.2.1 16) (L.1 1 + 1 + L.1 2).toNatClampNeg (L.1 4).toNatClampNeg N.toNatClampNeg j)
    intro j hj
    rw [u_add (by omega)] at hj
    rw [u_cl (x := L.1 1 + 1 + L.1 2) (by omega), u_cl (x := L.1 4) (by omega), u_cl (x := N) (by omega), e1]
    unfold va_cpy
    by_cases c : uN (L.1 4) ≤ j ∧ j < uN (L.1 4) + uN N
    · rw [if_pos c, show uN (L.1 1) + 1 + uN (L.1 2) + (j - uN (L.1 4)) = uN (L.1 1) + 1 + (uN (L.1 2) + (j - uN (L.1 4))) from by omega]
      exact (fx.2.2 _ (by omega)).1
    · rw [if_neg c]
      exact hr j (by omega)
theorem u_shr1 {x : Int32} : uN ((x.toUInt32 >>> ((1 : Int32).toUInt32 &&& Int32.toUInt32 31)).toInt32) = uN x / 2 := by
  rw [u_shr x 1 (k := 1) (by decide)]
theorem c_placeOf (h : HQ g l t σ) (hx : Sq5 g σ (L.1 1)) (hy : Gv g (L.1 3)) (ha : uN (L.1 2) ≤ 4096) : Tm (fun k => y_X0_placeOf k 0 L σ) (fun r => r.2 = σ ∧ uN (L.1 2) ≤ uN r.1 ∧ (uN r.1 = uN (L.1 2) ∨ uN r.1 ≤ lnC (σ.2.2.1 3) (L.1 1))) := by
  have ll := lnC_lt (σ.2.2.1 3) (L.1 1)
  have b2 : ∀ L' : LV, uN (L.1 2) ≤ uN (L'.1 4) → (uN (L'.1 4) = uN (L.1 2) ∨ uN (L'.1 4) ≤ lnC (σ.2.2.1 3) (L.1 1)) → Tm (fun k => y_X0_placeOf k 2 L' σ) (fun r => r.2 = σ ∧ uN (L.1 2) ≤ uN r.1 ∧ (uN r.1 = uN (L.1 2) ∨ uN r.1 ≤ lnC (σ.2.2.1 3) (L.1 1))) := by
    intro L' a b
    refine Tm_suc (fun k => by rw [y_X0_placeOf]) ?_
    exact Tm_some ⟨rfl, a, b⟩
  have b1 : ∀ (m : Nat) (L' : LV), uN (L'.1 6) + m = 32 → L'.1 1 = L.1 1 → L'.1 3 = L.1 3 → uN (L.1 2) ≤ uN (L'.1 4) → (uN (L'.1 4) = uN (L.1 2) ∨ uN (L'.1 4) ≤ lnC (σ.2.2.1 3) (L.1 1)) → uN (L'.1 5) ≤ lnC (σ.2.2.1 3) (L.1 1) → Tm (fun k => y_X0_placeOf k 1 L' σ) (fun r => r.2 = σ ∧ uN (L.1 2) ≤ uN r.1 ∧ (uN r.1 = uN (L.1 2) ∨ uN r.1 ≤ lnC (σ.2.2.1 3) (L.1 1))) := by
    intro m
    induction m with
    | zero =>
      intro L' a6 a1 a3 a4 a4' a5
      refine Tm_suc (fun k => by rw [y_X0_placeOf]) ?_
      exact Tm_yes (by rw [u_le (by decide) (by omega)]; show 32 ≤ _; omega) (b2 _ a4 a4')
    | succ m ih =>
      intro L' a6 a1 a3 a4 a4' a5
      have b4 : ∀ L2 : LV, L2.1 6 = L'.1 6 → L2.1 1 = L.1 1 → L2.1 3 = L.1 3 → uN (L.1 2) ≤ uN (L2.1 4) → (uN (L2.1 4) = uN (L.1 2) ∨ uN (L2.1 4) ≤ lnC (σ.2.2.1 3) (L.1 1)) → uN (L2.1 5) ≤ lnC (σ.2.2.1 3) (L.1 1) → Tm (fun k => y_X0_placeOf k 4 L2 σ) (fun r => r.2 = σ ∧ uN (L.1 2) ≤ uN r.1 ∧ (uN r.1 = uN (L.1 2) ∨ uN r.1 ≤ lnC (σ.2.2.1 3) (L.1 1))) := by
        intro L2 z6 z1 z3 z4 z4' z5
        refine Tm_suc (fun k => by rw [y_X0_placeOf]) ?_
        refine ih _ ?_ ?_ ?_ ?_ ?_ ?_
        · show uN (L2.1 6 + 1) + m = 32
          rw [z6, u_inc (by omega)]; omega
        · exact z1
        · exact z3
        · exact z4
        · exact z4'
        · exact z5
      have eh : uN ((((L'.1 4) + (L'.1 5)).toUInt32 >>> ((1 : Int32).toUInt32 &&& Int32.toUInt32 31)).toInt32) = (uN (L'.1 4) + uN (L'.1 5)) / 2 := by
        rw [u_shr1, u_add (by omega)]
      have hx' : Sq5 g σ (L'.1 1) := by rw [a1]; exact hx
      refine Tm_suc (fun k => by rw [y_X0_placeOf]) ?_
      refine Tm_ite (fun _ => b2 _ a4 a4') (fun _ => Tm_ite (fun _ => b2 _ a4 a4') (fun c => ?_))
      rw [u_le (by omega) (by omega)] at c
      refine Tm_ocE (c_member h hx'.1 hx'.2) ?_
      refine Tm_oc (c_compare h (mbC_g h hx'.1 hx'.2) (by show Gv g (L'.1 3); rw [a3]; exact hy)) (fun r hr => ?_)
      have e : r.2 = σ := hr
      rw [e]
      refine Tm_ite (fun _ => ?_) (fun _ => ?_)
      · refine Tm_suc (fun k => by rw [y_X0_placeOf]) ?_
        refine b4 _ ?_ ?_ ?_ ?_ ?_ ?_
        · rfl
        · exact a1
        · exact a3
        · exact a4
        · exact a4'
        · show uN ((((L'.1 4) + (L'.1 5)).toUInt32 >>> ((1 : Int32).toUInt32 &&& Int32.toUInt32 31)).toInt32) ≤ _
          omega
      · refine b4 _ ?_ ?_ ?_ ?_ ?_ ?_
        · rfl
        · exact a1
        · exact a3
        · show _ ≤ uN ((((L'.1 4) + (L'.1 5)).toUInt32 >>> ((1 : Int32).toUInt32 &&& Int32.toUInt32 31)).toInt32 + 1)
          rw [u_inc (by omega)]; omega
        · right
          show uN ((((L'.1 4) + (L'.1 5)).toUInt32 >>> ((1 : Int32).toUInt32 &&& Int32.toUInt32 31)).toInt32 + 1) ≤ _
          rw [u_inc (by omega)]; omega
        · exact a5
  refine Tm_suc (fun k => by rw [y_X0_placeOf]) ?_
  refine Tm_ocE (c_length h hx.1) ?_
  refine b1 32 _ ?_ ?_ ?_ ?_ ?_ ?_
  · rfl
  · rfl
  · rfl
  · exact Nat.le_refl _
  · left; rfl
  · show uN (nI (lnC (σ.2.2.1 3) (L.1 1))) ≤ _
    rw [u_n (by omega)]; exact Nat.le_refl _
theorem c_holds (h : HQ g l t σ) (hx : Sq5 g σ (L.1 1)) (hy : Gv g (L.1 2)) : Tm (fun k => y_X0_holds k 0 L σ) (fun r => r.2 = σ ∧ (r.1 = 0 ∨ r.1 = 1)) := by
  have b2 : ∀ L' : LV, (L'.1 100 = 0 ∨ L'.1 100 = 1) → Tm (fun k => y_X0_holds k 2 L' σ) (fun r => r.2 = σ ∧ (r.1 = 0 ∨ r.1 = 1)) := by
    intro L' d
    refine Tm_suc (fun k => by rw [y_X0_holds]) ?_
    refine Tm_chk d ?_
    exact Tm_some ⟨rfl, d⟩
  have b1 : ∀ L' : LV, Tm (fun k => y_X0_holds k 1 L' σ) (fun r => r.2 = σ ∧ (r.1 = 0 ∨ r.1 = 1)) := by
    intro L'
    refine Tm_suc (fun k => by rw [y_X0_holds]) ?_
    exact b2 _ (Or.inl rfl)
  refine Tm_suc (fun k => by rw [y_X0_holds]) ?_
  refine Tm_oc (c_placeOf h hx hy (by show uN 0 ≤ 4096; decide)) (fun r1 h1 => ?_)
  have e1 : r1.2 = σ := h1.1
  rw [e1]
  refine Tm_ocE (c_length h hx.1) ?_
  refine Tm_ite (fun _ => b1 _) (fun _ => ?_)
  refine Tm_ocE (c_member h hx.1 hx.2) ?_
  refine Tm_oc (c_same h (mbC_g h hx.1 hx.2) hy) (fun r2 h2 => ?_)
  have e2 : r2.2 = σ := h2.1
  rw [e2]
  exact Tm_ite (fun _ => b1 _) (fun _ => b2 _ (Or.inr rfl))
end CRS
end JnS355
section JnS356
/-! The class: unions, differences, meets of sets. -/
section CRT
variable {g g' g2 : Nat → Prop} {l l' l2 : List Nat} {t t' t2 : Nat} {σ σ' σ2 : CS} {L : LV} {x y i : Int32} {M M' : Nat → Int32}
theorem c_areWholes (h : HQ g l t σ) (hx : Gv g (L.1 1)) (hy : Gv g (L.1 2)) : Tm (fun k => y_X0_areWholes k 0 L σ) (fun r => r.2 = σ ∧ (¬ r.1 = 0 → kdC (σ.2.2.1 3) (L.1 1) = 2 ∧ kdC (σ.2.2.1 3) (L.1 2) = 2)) := by
  have no : ∀ L' : LV, Tm (fun k => y_X0_areWholes k 1 L' σ) (fun r => r.2 = σ ∧ (¬ r.1 = 0 → kdC (σ.2.2.1 3) (L.1 1) = 2 ∧ kdC (σ.2.2.1 3) (L.1 2) = 2)) := by
    intro L'
    refine Tm_suc (fun k => by rw [y_X0_areWholes]) ?_
    refine Tm_suc (fun k => by rw [y_X0_areWholes]) ?_
    refine Tm_chk (Or.inl rfl) ?_
    exact Tm_some ⟨rfl, fun z => absurd rfl z⟩
  refine Tm_suc (fun k => by rw [y_X0_areWholes]) ?_
  refine Tm_ocE (c_kind h hx) ?_
  refine Tm_ite (fun c => ?_) (fun _ => no _)
  refine Tm_ocE (c_kind h hy) ?_
  refine Tm_ite (fun d => ?_) (fun _ => no _)
  have c' : nI (kdC (σ.2.2.1 3) (L.1 1)) = 2 := c
  have d' : nI (kdC (σ.2.2.1 3) (L.1 2)) = 2 := d
  have q1 := kdC_lt (σ.2.2.1 3) (L.1 1)
  have q2 := kdC_lt (σ.2.2.1 3) (L.1 2)
  rw [u_eq, u_n (by omega)] at c' d'
  refine Tm_suc (fun k => by rw [y_X0_areWholes]) ?_
  refine Tm_chk (Or.inr rfl) ?_
  exact Tm_some ⟨rfl, fun _ => ⟨c', d'⟩⟩
theorem c_areSets (h : HQ g l t σ) (hx : Gv g (L.1 1)) (hy : Gv g (L.1 2)) : Tm (fun k => y_X0_areSets k 0 L σ) (fun r => r.2 = σ ∧ (¬ r.1 = 0 → kdC (σ.2.2.1 3) (L.1 1) = 6 ∧ kdC (σ.2.2.1 3) (L.1 2) = 6)) := by
  have no : ∀ L' : LV, Tm (fun k => y_X0_areSets k 1 L' σ) (fun r => r.2 = σ ∧ (¬ r.1 = 0 → kdC (σ.2.2.1 3) (L.1 1) = 6 ∧ kdC (σ.2.2.1 3) (L.1 2) = 6)) := by
    intro L'
    refine Tm_suc (fun k => by rw [y_X0_areSets]) ?_
    refine Tm_suc (fun k => by rw [y_X0_areSets]) ?_
    refine Tm_chk (Or.inl rfl) ?_
    exact Tm_some ⟨rfl, fun z => absurd rfl z⟩
  refine Tm_suc (fun k => by rw [y_X0_areSets]) ?_
  refine Tm_ocE (c_kind h hx) ?_
  refine Tm_ite (fun c => ?_) (fun _ => no _)
  refine Tm_ocE (c_kind h hy) ?_
  refine Tm_ite (fun d => ?_) (fun _ => no _)
  have c' : nI (kdC (σ.2.2.1 3) (L.1 1)) = 6 := c
  have d' : nI (kdC (σ.2.2.1 3) (L.1 2)) = 6 := d
  have q1 := kdC_lt (σ.2.2.1 3) (L.1 1)
  have q2 := kdC_lt (σ.2.2.1 3) (L.1 2)
  rw [u_eq, u_n (by omega)] at c' d'
  refine Tm_suc (fun k => by rw [y_X0_areSets]) ?_
  refine Tm_chk (Or.inr rfl) ?_
  exact Tm_some ⟨rfl, fun _ => ⟨c', d'⟩⟩
/-- out of row 16 -/
theorem mk16 (h : HQ g l t σ) (w : AXf σ σ') {n kd : Nat} (hk : kd = 5 ∨ kd = 6) {L : LV} (h1 : uN (L.1 1) = kd) (h3 : uN (L.1 3) = 0) (h4 : uN (L.1 4) ≤ 2048) (hr : ∀ j, j < uN (L.1 4) → Gv g (σ'.2.2.1 16 j)) : Tm (fun k => y_X1_makeRow__a16 k 0 L σ') (Va g t σ) := by
  refine Tm_mono (c_makeRow16 (HQ_X h w) hk (by decide) h1 (fun _ _ => ?_)) (fun r q => Va_M h w q)
  rw [h3]
  refine ⟨by omega, fun j hj => ?_⟩
  rw [Nat.zero_add]
  exact hr j hj
theorem mt16 (h : HQ g l t σ) (w : AXf σ σ') {L : LV} (h2 : uN (L.1 2) = 0) (h3 : uN (L.1 3) ≤ 2048) (hr : ∀ j, j < uN (L.1 3) → Gv g (σ'.2.2.1 16 j)) : Tm (fun k => y_X1_makeTuple__a16 k 0 L σ') (Va g t σ) := by
  refine Tm_mono (c_makeTuple16 (HQ_X h w) (by decide) (fun _ _ => ?_)) (fun r q => Va_M h w q)
  rw [h2]
  refine ⟨by omega, fun j hj => ?_⟩
  rw [Nat.zero_add]
  exact hr j hj
/-- one value more in row 16 -/
theorem r16_p {n : Nat} (hr : ∀ j, j < n → Gv g (σ.2.2.1 16 j)) (hx : Gv g x) : ∀ j, j < n + 1 → Gv g ((uA σ 16 n x).2.2.1 16 j) := by
  intro j hj
  show Gv g (upd (σ.2.2.1 16) n x j)
  by_cases c : j = n
  · rw [c, upd_same]; exact hx
  · rw [upd_other c]; exact hr j (by omega)
theorem c_union (h : HQ g l t σ) (hx : Sq5 g σ (L.1 1)) (hy : Sq5 g σ (L.1 2)) : Tm (fun k => y_X0_union k 0 L σ) (Va g t σ) := by
  have la := lnC_lt (σ.2.2.1 3) (L.1 1)
  have lb := lnC_lt (σ.2.2.1 3) (L.1 2)
  have ea : uN (nI (lnC (σ.2.2.1 3) (L.1 1))) = lnC (σ.2.2.1 3) (L.1 1) := u_n (by omega)
  have eb : uN (nI (lnC (σ.2.2.1 3) (L.1 2))) = lnC (σ.2.2.1 3) (L.1 2) := u_n (by omega)
  have b2 : ∀ (L' : LV) (σ' : CS), AXf σ σ' → L'.1 1 = L.1 1 → uN (L'.1 3) < 2147483648 → uN (L'.1 4) ≤ 2048 → (∀ j, j < uN (L'.1 4) → Gv g (σ'.2.2.1 16 j)) → Tm (fun k => y_X0_union k 2 L' σ') (Va g t σ) := by
    intro L' σ' w a1 a3 a4 hr
    have r3 : σ'.2.2.1 3 = σ.2.2.1 3 := w.2.2.1 3 (by decide)
    have hx' : Sq5 g σ' (L'.1 1) := Sq5_X w (by rw [a1]; exact hx)
    refine Tm_suc (fun k => by rw [y_X0_union]) ?_
    refine Tm_ocE (c_length (HQ_X h w) hx'.1) ?_
    refine Tm_oc (c_load0 (HQ_X h w) hx' a3 (by show uN (nI (lnC (σ'.2.2.1 3) (L'.1 1))) ≤ lnC (σ'.2.2.1 3) (L'.1 1); rw [r3, a1, ea]; exact Nat.le_refl _) a4 hr) (fun r q => ?_)
    obtain ⟨f, q1, q2, q3⟩ := q
    rw [q1]
    exact Tm_oc (mk16 (n := 0) h (AXf_t w (AXf_F σ' (by decide) f)) (Or.inr rfl) rfl rfl q2 q3) (fun r z => Tm_some z)
  have b1 : ∀ (m : Nat) (L' : LV) (σ' : CS), AXf σ σ' → uN (L'.1 5) + m = lnC (σ.2.2.1 3) (L.1 2) → L'.1 1 = L.1 1 → L'.1 2 = L.1 2 → uN (L'.1 3) ≤ lnC (σ.2.2.1 3) (L.1 1) → uN (L'.1 4) ≤ 2048 → (∀ j, j < uN (L'.1 4) → Gv g (σ'.2.2.1 16 j)) → Tm (fun k => y_X0_union k 1 L' σ') (Va g t σ) := by
    intro m
    induction m with
    | zero =>
      intro L' σ' w a5 a1 a2 a3 a4 hr
      have r3 : σ'.2.2.1 3 = σ.2.2.1 3 := w.2.2.1 3 (by decide)
      have hy' : Sq5 g σ' (L'.1 2) := Sq5_X w (by rw [a2]; exact hy)
      refine Tm_suc (fun k => by rw [y_X0_union]) ?_
      refine Tm_ocE (c_length (HQ_X h w) hy'.1) ?_
      refine Tm_yes ?_ (b2 _ _ w a1 (by omega) a4 hr)
      show nI (lnC (σ'.2.2.1 3) (L'.1 2)) ≤ L'.1 5
      rw [r3, a2, u_le (by omega) (by omega)]
      omega
    | succ m ih =>
      intro L' σ' w a5 a1 a2 a3 a4 hr
      have r3 : σ'.2.2.1 3 = σ.2.2.1 3 := w.2.2.1 3 (by decide)
      have hx' : Sq5 g σ' (L'.1 1) := Sq5_X w (by rw [a1]; exact hx)
      have hy' : Sq5 g σ' (L'.1 2) := Sq5_X w (by rw [a2]; exact hy)
      have h' := HQ_X h w
      have b4 : ∀ (L2 : LV) (σ2 : CS), AXf σ σ2 → L2.1 5 = L'.1 5 → L2.1 1 = L.1 1 → L2.1 2 = L.1 2 → uN (L2.1 3) ≤ lnC (σ.2.2.1 3) (L.1 1) → uN (L2.1 4) ≤ 2048 → (∀ j, j < uN (L2.1 4) → Gv g (σ2.2.2.1 16 j)) → Tm (fun k => y_X0_union k 4 L2 σ2) (Va g t σ) := by
        intro L2 σ2 w2 z5 z1 z2 z3 z4 zr
        refine Tm_suc (fun k => by rw [y_X0_union]) ?_
        refine ih _ _ w2 ?_ ?_ ?_ ?_ ?_ ?_
        · show uN (L2.1 5 + 1) + m = _
          rw [z5, u_inc (by omega)]; omega
        · exact z1
        · exact z2
        · exact z3
        · exact z4
        · exact zr
      have b3 : ∀ (L2 : LV) (σ2 : CS), AXf σ σ2 → Gv g (L2.1 6) → L2.1 5 = L'.1 5 → L2.1 1 = L.1 1 → L2.1 2 = L.1 2 → uN (L2.1 3) ≤ lnC (σ.2.2.1 3) (L.1 1) → uN (L2.1 4) ≤ 2048 → (∀ j, j < uN (L2.1 4) → Gv g (σ2.2.2.1 16 j)) → Tm (fun k => y_X0_union k 3 L2 σ2) (Va g t σ) := by
        intro L2 σ2 w2 z6 z5 z1 z2 z3 z4 zr
        refine Tm_suc (fun k => by rw [y_X0_union]) ?_
        refine Tm_ite (fun _ => b4 _ _ w2 z5 z1 z2 z3 z4 zr) (fun c => ?_)
        rw [u_le (by decide) (by omega)] at c
        have c' : uN (L2.1 4) < 2048 := Nat.lt_of_not_le c
        refine Tm_chk (u_in c' (by decide)) ?_
        have e4 : uN (L2.1 4 + 1) = uN (L2.1 4) + 1 := u_inc (by omega)
        refine b4 _ _ (AXf_t w2 (AXf_A _ (by decide) _ _)) ?_ ?_ ?_ ?_ ?_ ?_
        · exact z5
        · exact z1
        · exact z2
        · exact z3
        · show uN (L2.1 4 + 1) ≤ 2048; omega
        · show ∀ j, j < uN (L2.1 4 + 1) → Gv g ((uA σ2 16 (L2.1 4).toNatClampNeg (L2.1 6)).2.2.1 16 j)
          rw [e4, u_cl (by omega)]
          exact r16_p zr z6
      refine Tm_suc (fun k => by rw [y_X0_union]) ?_
      refine Tm_ocE (c_length h' hy'.1) ?_
      refine Tm_ite (fun c => absurd c ?_) (fun _ => ?_)
      · show ¬ nI (lnC (σ'.2.2.1 3) (L'.1 2)) ≤ L'.1 5
        rw [r3, a2, u_le (by omega) (by omega)]
        omega
      refine Tm_ocE (c_member h' hy'.1 hy'.2) ?_
      have gm := mbC_g (y := L'.1 5) h' hy'.1 hy'.2
      refine Tm_oc (c_placeOf h' hx' gm (by show uN (L'.1 3) ≤ 4096; omega)) (fun r4 q4 => ?_)
      have e4 : r4.2 = σ' := q4.1
      have p4 : uN r4.1 ≤ lnC (σ.2.2.1 3) (L.1 1) := by
        rcases q4.2.2 with z | z
        · have z' : uN r4.1 = uN (L'.1 3) := z
          omega
        · have z' : uN r4.1 ≤ lnC (σ'.2.2.1 3) (L'.1 1) := z
          rw [r3, a1] at z'
          exact z'
      rw [e4]
      refine Tm_oc (c_load0 h' hx' (by show uN (L'.1 3) < _; omega) (by show uN r4.1 ≤ lnC (σ'.2.2.1 3) (L'.1 1); rw [r3, a1]; exact p4) a4 hr) (fun r5 q5 => ?_)
      obtain ⟨f, f1, f2, f3⟩ := q5
      rw [f1]
      have w5 := AXf_t w (AXf_F σ' (k := 16) (by decide) f)
      have h5 := HQ_X h w5
      have hx5 : Sq5 g (uF σ' 16 f) (L'.1 1) := Sq5_X w5 (by rw [a1]; exact hx)
      refine Tm_ocE (c_length h5 hx5.1) ?_
      have go3 : Tm (fun k => y_X0_union k 3 (lI (lI (lI L' 3 r4.1) 4 r5.1) 6 (mbC (σ'.2.2.1 3) (L'.1 2) (L'.1 5))) (uF σ' 16 f)) (Va g t σ) := by
        refine b3 _ _ w5 ?_ ?_ ?_ ?_ ?_ ?_ ?_
        · exact gm
        · rfl
        · exact a1
        · exact a2
        · exact p4
        · exact f2
        · exact f3
      refine Tm_ite (fun _ => go3) (fun _ => ?_)
      refine Tm_ocE (c_member h5 hx5.1 hx5.2) ?_
      refine Tm_oc (c_same h5 (mbC_g h5 hx5.1 hx5.2) gm) (fun r9 q9 => ?_)
      have e9 : r9.2 = uF σ' 16 f := q9.1
      rw [e9]
      refine Tm_ite (fun _ => go3) (fun _ => ?_)
      refine b4 _ _ w5 ?_ ?_ ?_ ?_ ?_ ?_
      · rfl
      · exact a1
      · exact a2
      · exact p4
      · exact f2
      · exact f3
  refine Tm_suc (fun k => by rw [y_X0_union]) ?_
  refine b1 (lnC (σ.2.2.1 3) (L.1 2)) _ σ (AXf_r σ) ?_ ?_ ?_ ?_ ?_ ?_
  · show 0 + _ = _; omega
  · rfl
  · rfl
  · exact Nat.zero_le _
  · show uN 0 ≤ 2048; decide
  · intro j hj; exact absurd hj (Nat.not_lt_zero j)
theorem c_without (h : HQ g l t σ) (hx : Sq5 g σ (L.1 1)) (hy : Sq5 g σ (L.1 2)) : Tm (fun k => y_X0_without k 0 L σ) (Va g t σ) := by
  have la := lnC_lt (σ.2.2.1 3) (L.1 1)
  have lb := lnC_lt (σ.2.2.1 3) (L.1 2)
  have ea : uN (nI (lnC (σ.2.2.1 3) (L.1 1))) = lnC (σ.2.2.1 3) (L.1 1) := u_n (by omega)
  have eb : uN (nI (lnC (σ.2.2.1 3) (L.1 2))) = lnC (σ.2.2.1 3) (L.1 2) := u_n (by omega)
  have b2 : ∀ (L' : LV) (σ' : CS), AXf σ σ' → L'.1 1 = L.1 1 → uN (L'.1 3) < 2147483648 → uN (L'.1 4) ≤ 2048 → (∀ j, j < uN (L'.1 4) → Gv g (σ'.2.2.1 16 j)) → Tm (fun k => y_X0_without k 2 L' σ') (Va g t σ) := by
    intro L' σ' w a1 a3 a4 hr
    have r3 : σ'.2.2.1 3 = σ.2.2.1 3 := w.2.2.1 3 (by decide)
    have hx' : Sq5 g σ' (L'.1 1) := Sq5_X w (by rw [a1]; exact hx)
    refine Tm_suc (fun k => by rw [y_X0_without]) ?_
    refine Tm_ocE (c_length (HQ_X h w) hx'.1) ?_
    refine Tm_oc (c_load0 (HQ_X h w) hx' a3 (by show uN (nI (lnC (σ'.2.2.1 3) (L'.1 1))) ≤ lnC (σ'.2.2.1 3) (L'.1 1); rw [r3, a1, ea]; exact Nat.le_refl _) a4 hr) (fun r q => ?_)
    obtain ⟨f, q1, q2, q3⟩ := q
    rw [q1]
    exact Tm_oc (mk16 (n := 0) h (AXf_t w (AXf_F σ' (by decide) f)) (Or.inr rfl) rfl rfl q2 q3) (fun r z => Tm_some z)
  have b1 : ∀ (m : Nat) (L' : LV) (σ' : CS), AXf σ σ' → uN (L'.1 5) + m = lnC (σ.2.2.1 3) (L.1 2) → L'.1 1 = L.1 1 → L'.1 2 = L.1 2 → uN (L'.1 3) ≤ lnC (σ.2.2.1 3) (L.1 1) → uN (L'.1 4) ≤ 2048 → (∀ j, j < uN (L'.1 4) → Gv g (σ'.2.2.1 16 j)) → Tm (fun k => y_X0_without k 1 L' σ') (Va g t σ) := by
    intro m
    induction m with
    | zero =>
      intro L' σ' w a5 a1 a2 a3 a4 hr
      have r3 : σ'.2.2.1 3 = σ.2.2.1 3 := w.2.2.1 3 (by decide)
      have hy' : Sq5 g σ' (L'.1 2) := Sq5_X w (by rw [a2]; exact hy)
      refine Tm_suc (fun k => by rw [y_X0_without]) ?_
      refine Tm_ocE (c_length (HQ_X h w) hy'.1) ?_
      refine Tm_yes ?_ (b2 _ _ w a1 (by omega) a4 hr)
      show nI (lnC (σ'.2.2.1 3) (L'.1 2)) ≤ L'.1 5
      rw [r3, a2, u_le (by omega) (by omega)]
      omega
    | succ m ih =>
      intro L' σ' w a5 a1 a2 a3 a4 hr
      have r3 : σ'.2.2.1 3 = σ.2.2.1 3 := w.2.2.1 3 (by decide)
      have hx' : Sq5 g σ' (L'.1 1) := Sq5_X w (by rw [a1]; exact hx)
      have hy' : Sq5 g σ' (L'.1 2) := Sq5_X w (by rw [a2]; exact hy)
      have h' := HQ_X h w
      have b4 : ∀ (L2 : LV) (σ2 : CS), AXf σ σ2 → L2.1 5 = L'.1 5 → L2.1 1 = L.1 1 → L2.1 2 = L.1 2 → uN (L2.1 100) ≤ lnC (σ.2.2.1 3) (L.1 1) → uN (L2.1 4) ≤ 2048 → (∀ j, j < uN (L2.1 4) → Gv g (σ2.2.2.1 16 j)) → Tm (fun k => y_X0_without k 4 L2 σ2) (Va g t σ) := by
        intro L2 σ2 w2 z5 z1 z2 z3 z4 zr
        refine Tm_suc (fun k => by rw [y_X0_without]) ?_
        refine ih _ _ w2 ?_ ?_ ?_ ?_ ?_ ?_
        · show uN (L2.1 5 + 1) + m = _
          rw [z5, u_inc (by omega)]; omega
        · exact z1
        · exact z2
        · exact z3
        · exact z4
        · exact zr
      refine Tm_suc (fun k => by rw [y_X0_without]) ?_
      refine Tm_ocE (c_length h' hy'.1) ?_
      refine Tm_ite (fun c => absurd c ?_) (fun _ => ?_)
      · show ¬ nI (lnC (σ'.2.2.1 3) (L'.1 2)) ≤ L'.1 5
        rw [r3, a2, u_le (by omega) (by omega)]
        omega
      refine Tm_ocE (c_member h' hy'.1 hy'.2) ?_
      have gm := mbC_g (y := L'.1 5) h' hy'.1 hy'.2
      refine Tm_oc (c_placeOf h' hx' gm (by show uN (L'.1 3) ≤ 4096; omega)) (fun r4 q4 => ?_)
      have e4 : r4.2 = σ' := q4.1
      have p4 : uN r4.1 ≤ lnC (σ.2.2.1 3) (L.1 1) := by
        rcases q4.2.2 with z | z
        · have z' : uN r4.1 = uN (L'.1 3) := z
          omega
        · have z' : uN r4.1 ≤ lnC (σ'.2.2.1 3) (L'.1 1) := z
          rw [r3, a1] at z'
          exact z'
      rw [e4]
      refine Tm_oc (c_load0 h' hx' (by show uN (L'.1 3) < _; omega) (by show uN r4.1 ≤ lnC (σ'.2.2.1 3) (L'.1 1); rw [r3, a1]; exact p4) a4 hr) (fun r5 q5 => ?_)
      obtain ⟨f, f1, f2, f3⟩ := q5
      rw [f1]
      have w5 := AXf_t w (AXf_F σ' (k := 16) (by decide) f)
      have h5 := HQ_X h w5
      have hx5 : Sq5 g (uF σ' 16 f) (L'.1 1) := Sq5_X w5 (by rw [a1]; exact hx)
      refine Tm_ocE (c_length h5 hx5.1) ?_
      have go3 : Tm (fun k => y_X0_without k 3 (lI (lI L' 4 r5.1) 7 r4.1) (uF σ' 16 f)) (Va g t σ) := by
        refine Tm_suc (fun k => by rw [y_X0_without]) ?_
        refine b4 _ _ w5 ?_ ?_ ?_ ?_ ?_ ?_
        · rfl
        · exact a1
        · exact a2
        · exact p4
        · exact f2
        · exact f3
      refine Tm_ite (fun _ => go3) (fun c => ?_)
      have c' : ¬ nI (lnC (σ'.2.2.1 3) (L'.1 1)) ≤ r4.1 := c
      rw [r3, a1, u_le (by omega) (by omega), ea] at c'
      refine Tm_ocE (c_member h5 hx5.1 hx5.2) ?_
      refine Tm_oc (c_same h5 (mbC_g h5 hx5.1 hx5.2) gm) (fun r9 q9 => ?_)
      have e9 : r9.2 = uF σ' 16 f := q9.1
      rw [e9]
      refine Tm_ite (fun _ => go3) (fun _ => ?_)
      refine b4 _ _ w5 ?_ ?_ ?_ ?_ ?_ ?_
      · rfl
      · exact a1
      · exact a2
      · show uN (r4.1 + 1) ≤ _
        rw [u_inc (by omega)]; omega
      · exact f2
      · exact f3
  refine Tm_suc (fun k => by rw [y_X0_without]) ?_
  refine b1 (lnC (σ.2.2.1 3) (L.1 2)) _ σ (AXf_r σ) ?_ ?_ ?_ ?_ ?_ ?_
  · show 0 + _ = _; omega
  · rfl
  · rfl
  · exact Nat.zero_le _
  · show uN 0 ≤ 2048; decide
  · intro j hj; exact absurd hj (Nat.not_lt_zero j)
end CRT
end JnS356
section JnS357
/-! The class: choosing, holding, comparing. -/
section CRU
variable {g g' g2 : Nat → Prop} {l l' l2 : List Nat} {t t' t2 : Nat} {σ σ' σ2 : CS} {L : LV} {x y i : Int32} {M M' : Nat → Int32}
theorem c_chosen (h : HQ g l t σ) (hx : Sq5 g σ (L.1 1)) (hy : Sq5 g σ (L.1 2)) : Tm (fun k => y_X0_chosen k 0 L σ) (Va g t σ) := by
  have la := lnC_lt (σ.2.2.1 3) (L.1 1)
  have ea : uN (nI (lnC (σ.2.2.1 3) (L.1 1))) = lnC (σ.2.2.1 3) (L.1 1) := u_n (by omega)
  have b2 : ∀ (L' : LV) (σ' : CS), AXf σ σ' → uN (L'.1 4) ≤ 2048 → (∀ j, j < uN (L'.1 4) → Gv g (σ'.2.2.1 16 j)) → Tm (fun k => y_X0_chosen k 2 L' σ') (Va g t σ) := by
    intro L' σ' w a4 hr
    refine Tm_suc (fun k => by rw [y_X0_chosen]) ?_
    exact Tm_oc (mk16 (n := 0) h w (Or.inr rfl) rfl rfl a4 hr) (fun r z => Tm_some z)
  have b1 : ∀ (m : Nat) (L' : LV) (σ' : CS), AXf σ σ' → uN (L'.1 5) + m = lnC (σ.2.2.1 3) (L.1 1) → L'.1 1 = L.1 1 → L'.1 2 = L.1 2 → uN (L'.1 4) ≤ 2048 → (∀ j, j < uN (L'.1 4) → Gv g (σ'.2.2.1 16 j)) → Tm (fun k => y_X0_chosen k 1 L' σ') (Va g t σ) := by
    intro m
    induction m with
    | zero =>
      intro L' σ' w a5 a1 a2 a4 hr
      have r3 : σ'.2.2.1 3 = σ.2.2.1 3 := w.2.2.1 3 (by decide)
      have hx' : Sq5 g σ' (L'.1 1) := Sq5_X w (by rw [a1]; exact hx)
      refine Tm_suc (fun k => by rw [y_X0_chosen]) ?_
      refine Tm_ocE (c_length (HQ_X h w) hx'.1) ?_
      refine Tm_yes ?_ (b2 _ _ w a4 hr)
      show nI (lnC (σ'.2.2.1 3) (L'.1 1)) ≤ L'.1 5
      rw [r3, a1, u_le (by omega) (by omega)]
      omega
    | succ m ih =>
      intro L' σ' w a5 a1 a2 a4 hr
      have r3 : σ'.2.2.1 3 = σ.2.2.1 3 := w.2.2.1 3 (by decide)
      have hx' : Sq5 g σ' (L'.1 1) := Sq5_X w (by rw [a1]; exact hx)
      have hy' : Sq5 g σ' (L'.1 2) := Sq5_X w (by rw [a2]; exact hy)
      have h' := HQ_X h w
      have b5 : ∀ (L2 : LV) (σ2 : CS), AXf σ σ2 → L2.1 5 = L'.1 5 → L2.1 1 = L.1 1 → L2.1 2 = L.1 2 → uN (L2.1 4) ≤ 2048 → (∀ j, j < uN (L2.1 4) → Gv g (σ2.2.2.1 16 j)) → Tm (fun k => y_X0_chosen k 5 L2 σ2) (Va g t σ) := by
        intro L2 σ2 w2 z5 z1 z2 z4 zr
        refine Tm_suc (fun k => by rw [y_X0_chosen]) ?_
        refine ih _ _ w2 ?_ ?_ ?_ ?_ ?_
        · show uN (L2.1 5 + 1) + m = _
          rw [z5, u_inc (by omega)]; omega
        · exact z1
        · exact z2
        · exact z4
        · exact zr
      refine Tm_suc (fun k => by rw [y_X0_chosen]) ?_
      refine Tm_ocE (c_length h' hx'.1) ?_
      refine Tm_ite (fun c => absurd c ?_) (fun _ => ?_)
      · show ¬ nI (lnC (σ'.2.2.1 3) (L'.1 1)) ≤ L'.1 5
        rw [r3, a1, u_le (by omega) (by omega)]
        omega
      refine Tm_ite (fun _ => b2 _ _ w a4 hr) (fun c4 => ?_)
      rw [u_le (by decide) (by omega)] at c4
      have c4' : uN (L'.1 4) < 2048 := Nat.lt_of_not_le c4
      refine Tm_ocE (c_member h' hx'.1 hx'.2) ?_
      have gm := mbC_g (y := L'.1 5) h' hx'.1 hx'.2
      have b4 : ∀ (L2 : LV), Gv g (L2.1 6) → L2.1 5 = L'.1 5 → L2.1 1 = L.1 1 → L2.1 2 = L.1 2 → L2.1 4 = L'.1 4 → Tm (fun k => y_X0_chosen k 4 L2 σ') (Va g t σ) := by
        intro L2 z6 z5 z1 z2 z4
        refine Tm_suc (fun k => by rw [y_X0_chosen]) ?_
        refine Tm_ite (fun _ => ?_) (fun _ => ?_)
        · refine Tm_chk (u_in (by rw [z4]; exact c4') (by decide)) ?_
          have e4 : uN (L2.1 4 + 1) = uN (L'.1 4) + 1 := by rw [z4, u_inc (by omega)]
          refine b5 _ _ (AXf_t w (AXf_A _ (by decide) _ _)) ?_ ?_ ?_ ?_ ?_
          · exact z5
          · exact z1
          · exact z2
          · show uN (L2.1 4 + 1) ≤ 2048; omega
          · show ∀ j, j < uN (L2.1 4 + 1) → Gv g ((uA σ' 16 (L2.1 4).toNatClampNeg (L2.1 6)).2.2.1 16 j)
            rw [e4, z4, u_cl (by omega)]
            exact r16_p hr z6
        · refine b5 _ _ w ?_ ?_ ?_ ?_ ?_
          · exact z5
          · exact z1
          · exact z2
          · rw [z4]; exact a4
          · rw [z4]; exact hr
      have go3 : Tm (fun k => y_X0_chosen k 3 (lI L' 6 (mbC (σ'.2.2.1 3) (L'.1 1) (L'.1 5))) σ') (Va g t σ) := by
        refine Tm_suc (fun k => by rw [y_X0_chosen]) ?_
        refine b4 _ ?_ ?_ ?_ ?_ ?_
        · exact gm
        · rfl
        · exact a1
        · exact a2
        · rfl
      refine Tm_oc (c_placeOf h' hy' gm (by show uN 0 ≤ 4096; decide)) (fun r4 q4 => ?_)
      have e4 : r4.2 = σ' := q4.1
      rw [e4]
      refine Tm_ocE (c_length h' hy'.1) ?_
      refine Tm_ite (fun _ => go3) (fun _ => ?_)
      refine Tm_ocE (c_member h' hy'.1 hy'.2) ?_
      refine Tm_oc (c_same h' (mbC_g h' hy'.1 hy'.2) gm) (fun r9 q9 => ?_)
      have e9 : r9.2 = σ' := q9.1
      rw [e9]
      refine Tm_ite (fun _ => go3) (fun _ => ?_)
      refine b4 _ ?_ ?_ ?_ ?_ ?_
      · exact gm
      · rfl
      · exact a1
      · exact a2
      · rfl
  refine Tm_suc (fun k => by rw [y_X0_chosen]) ?_
  refine b1 (lnC (σ.2.2.1 3) (L.1 1)) _ σ (AXf_r σ) ?_ ?_ ?_ ?_ ?_
  · show 0 + _ = _; omega
  · rfl
  · rfl
  · show uN 0 ≤ 2048; decide
  · intro j hj; exact absurd hj (Nat.not_lt_zero j)
theorem c_isSubset (h : HQ g l t σ) (hx : Sq5 g σ (L.1 1)) (hy : Sq5 g σ (L.1 2)) : Tm (fun k => y_X0_isSubset k 0 L σ) (Qs σ) := by
  have la := lnC_lt (σ.2.2.1 3) (L.1 1)
  have ea : uN (nI (lnC (σ.2.2.1 3) (L.1 1))) = lnC (σ.2.2.1 3) (L.1 1) := u_n (by omega)
  have b4 : ∀ L' : LV, (L'.1 3 = 0 ∨ L'.1 3 = 1) → Tm (fun k => y_X0_isSubset k 4 L' σ) (Qs σ) := by
    intro L' d
    refine Tm_suc (fun k => by rw [y_X0_isSubset]) ?_
    refine Tm_chk d ?_
    exact Tm_some rfl
  have b3 : ∀ (m : Nat) (L' : LV), uN (L'.1 4) + m = lnC (σ.2.2.1 3) (L.1 1) → L'.1 1 = L.1 1 → L'.1 2 = L.1 2 → (L'.1 3 = 0 ∨ L'.1 3 = 1) → Tm (fun k => y_X0_isSubset k 3 L' σ) (Qs σ) := by
    intro m
    induction m with
    | zero =>
      intro L' a4 a1 a2 a3
      refine Tm_suc (fun k => by rw [y_X0_isSubset]) ?_
      refine Tm_ocE (c_length h (by show Gv g (L'.1 1); rw [a1]; exact hx.1)) ?_
      refine Tm_yes ?_ (b4 _ a3)
      show nI (lnC (σ.2.2.1 3) (L'.1 1)) ≤ L'.1 4
      rw [a1, u_le (by omega) (by omega)]
      omega
    | succ m ih =>
      intro L' a4 a1 a2 a3
      have hx' : Sq5 g σ (L'.1 1) := by rw [a1]; exact hx
      have hy' : Sq5 g σ (L'.1 2) := by rw [a2]; exact hy
      refine Tm_suc (fun k => by rw [y_X0_isSubset]) ?_
      refine Tm_ocE (c_length h hx'.1) ?_
      refine Tm_ite (fun _ => b4 _ a3) (fun _ => Tm_ite (fun _ => b4 _ a3) (fun _ => ?_))
      refine Tm_ocE (c_member h hx'.1 hx'.2) ?_
      refine Tm_oc (c_holds h hy' (mbC_g h hx'.1 hx'.2)) (fun r q => ?_)
      have e : r.2 = σ := q.1
      rw [e]
      refine ih _ ?_ ?_ ?_ ?_
      · show uN (L'.1 4 + 1) + m = _
        rw [u_inc (by omega)]; omega
      · exact a1
      · exact a2
      · exact q.2
  have b2 : ∀ L' : LV, (L'.1 100 = 0 ∨ L'.1 100 = 1) → L'.1 1 = L.1 1 → L'.1 2 = L.1 2 → Tm (fun k => y_X0_isSubset k 2 L' σ) (Qs σ) := by
    intro L' d a1 a2
    refine Tm_suc (fun k => by rw [y_X0_isSubset]) ?_
    refine b3 (lnC (σ.2.2.1 3) (L.1 1)) _ ?_ ?_ ?_ ?_
    · show 0 + _ = _; omega
    · exact a1
    · exact a2
    · exact d
  refine Tm_suc (fun k => by rw [y_X0_isSubset]) ?_
  refine Tm_ocE (c_length h hx.1) ?_
  refine Tm_ocE (c_length h hy.1) ?_
  refine Tm_ite (fun _ => ?_) (fun _ => b2 _ (Or.inr rfl) rfl rfl)
  refine Tm_suc (fun k => by rw [y_X0_isSubset]) ?_
  exact b2 _ (Or.inl rfl) rfl rfl
theorem str_k (k : kdC M x = 4) (c : uN x < 2147483648) : hdK (uN (M (uN x))) = 4 := by
  unfold kdC at k
  rw [if_pos c] at k
  exact k
theorem c_standsIn (h : HQ g l t σ) (hx : Gv g (L.1 1)) (hy : Gv g (L.1 2)) (kx : kdC (σ.2.2.1 3) (L.1 1) = 4) (ky : kdC (σ.2.2.1 3) (L.1 2) = 4) : Tm (fun k => y_X0_standsIn k 0 L σ) (Qs σ) := by
  have la := lnC_lt (σ.2.2.1 3) (L.1 1)
  have lb := lnC_lt (σ.2.2.1 3) (L.1 2)
  have ea : uN (nI (lnC (σ.2.2.1 3) (L.1 1))) = lnC (σ.2.2.1 3) (L.1 1) := u_n (by omega)
  have eb : uN (nI (lnC (σ.2.2.1 3) (L.1 2))) = lnC (σ.2.2.1 3) (L.1 2) := u_n (by omega)
  have b1 : ∀ (m : Nat) (L' : LV), uN (L'.1 5) + m = 5000 → L'.1 1 = L.1 1 → L'.1 2 = L.1 2 → L'.1 3 = nI (lnC (σ.2.2.1 3) (L.1 1)) → L'.1 4 = nI (lnC (σ.2.2.1 3) (L.1 2)) - nI (lnC (σ.2.2.1 3) (L.1 1)) → Tm (fun k => y_X0_standsIn k 1 L' σ) (Qs σ) := by
    have e2 : ∀ L' : LV, Tm (fun k => y_X0_standsIn k 2 L' σ) (Qs σ) := by
      intro L'
      refine Tm_suc (fun k => by rw [y_X0_standsIn]) ?_
      exact Tm_some rfl
    have key : ∀ z : Int32, uN z ≤ 5000 → ¬ (nI (lnC (σ.2.2.1 3) (L.1 2)) - nI (lnC (σ.2.2.1 3) (L.1 1)) < z) → uN z + lnC (σ.2.2.1 3) (L.1 1) ≤ lnC (σ.2.2.1 3) (L.1 2) := by
      intro z z1 c
      rcases Nat.lt_or_ge (lnC (σ.2.2.1 3) (L.1 2)) (lnC (σ.2.2.1 3) (L.1 1)) with q | q
      · exfalso
        have n := u_subn (x := nI (lnC (σ.2.2.1 3) (L.1 2))) (y := nI (lnC (σ.2.2.1 3) (L.1 1))) (by omega) (by omega)
        rw [i_lt, u_int, u_int z, if_neg (by omega), if_pos (by omega)] at c
        have := u_lt (nI (lnC (σ.2.2.1 3) (L.1 2)) - nI (lnC (σ.2.2.1 3) (L.1 1)))
        omega
      · have n : uN (nI (lnC (σ.2.2.1 3) (L.1 2)) - nI (lnC (σ.2.2.1 3) (L.1 1))) = lnC (σ.2.2.1 3) (L.1 2) - lnC (σ.2.2.1 3) (L.1 1) := by
          rw [u_sub (by omega), ea, eb]
        rw [u_ltn (by omega) (by omega), n] at c
        omega
    intro m
    induction m with
    | zero =>
      intro L' a5 a1 a2 a3 a4
      refine Tm_suc (fun k => by rw [y_X0_standsIn]) ?_
      rw [a4]
      refine Tm_ite (fun _ => e2 _) (fun c => absurd (key _ (by omega) c) (by omega))
    | succ m ih =>
      intro L' a5 a1 a2 a3 a4
      refine Tm_suc (fun k => by rw [y_X0_standsIn]) ?_
      rw [a4]
      refine Tm_ite (fun _ => e2 _) (fun c => ?_)
      have c' := key _ (by omega) c
      have b4 : ∀ L2 : LV, L2.1 5 = L'.1 5 → L2.1 1 = L.1 1 → L2.1 2 = L.1 2 → L2.1 3 = nI (lnC (σ.2.2.1 3) (L.1 1)) → L2.1 4 = L'.1 4 → Tm (fun k => y_X0_standsIn k 4 L2 σ) (Qs σ) := by
        intro L2 z5 z1 z2 z3 z4
        refine Tm_suc (fun k => by rw [y_X0_standsIn]) ?_
        refine Tm_ite (fun _ => Tm_some rfl) (fun _ => ?_)
        refine Tm_suc (fun k => by rw [y_X0_standsIn]) ?_
        refine ih _ ?_ ?_ ?_ ?_ ?_
        · show uN (L2.1 5 + 1) + m = _
          rw [z5, u_inc (by omega)]; omega
        · exact z1
        · exact z2
        · exact z3
        · exact z4.trans a4
      have b3 : ∀ (d : Nat) (L2 : LV), uN (L2.1 7) + d = lnC (σ.2.2.1 3) (L.1 1) → L2.1 5 = L'.1 5 → L2.1 1 = L.1 1 → L2.1 2 = L.1 2 → L2.1 3 = nI (lnC (σ.2.2.1 3) (L.1 1)) → L2.1 4 = L'.1 4 → Tm (fun k => y_X0_standsIn k 3 L2 σ) (Qs σ) := by
        intro d
        induction d with
        | zero =>
          intro L2 z7 z5 z1 z2 z3 z4
          refine Tm_suc (fun k => by rw [y_X0_standsIn]) ?_
          exact Tm_yes (by rw [z3, u_le (by omega) (by omega)]; omega) (b4 _ z5 z1 z2 z3 z4)
        | succ d jh =>
          intro L2 z7 z5 z1 z2 z3 z4
          refine Tm_suc (fun k => by rw [y_X0_standsIn]) ?_
          refine Tm_ite (fun q => absurd q (by rw [z3, u_le (by omega) (by omega)]; omega)) (fun _ => ?_)
          refine Tm_oc (c_byteAt h (by show Gv g (L2.1 1); rw [z1]; exact hx) ?_) (fun r2 q2 => ?_)
          · intro _
            show kdC (σ.2.2.1 3) (L2.1 1) = 4 ∧ uN (L2.1 7) < lnC (σ.2.2.1 3) (L2.1 1)
            rw [z1]
            exact ⟨kx, by omega⟩
          have e2' : r2.2 = σ := q2.1
          rw [e2']
          refine Tm_oc (c_byteAt h (by show Gv g (L2.1 2); rw [z2]; exact hy) ?_) (fun r3 q3 => ?_)
          · intro _
            show kdC (σ.2.2.1 3) (L2.1 2) = 4 ∧ uN (L2.1 5 + L2.1 7) < lnC (σ.2.2.1 3) (L2.1 2)
            rw [z2, z5, u_add (by omega)]
            exact ⟨ky, by omega⟩
          have e3' : r3.2 = σ := q3.1
          rw [e3']
          refine Tm_ite (fun _ => ?_) (fun _ => b4 _ z5 z1 z2 z3 z4)
          refine jh _ ?_ ?_ ?_ ?_ ?_ ?_
          · show uN (L2.1 7 + 1) + d = _
            rw [u_inc (by omega)]; omega
          · exact z5
          · exact z1
          · exact z2
          · exact z3
          · exact z4
      refine b3 (lnC (σ.2.2.1 3) (L.1 1)) _ ?_ ?_ ?_ ?_ ?_ ?_
      · show 0 + _ = _; omega
      · rfl
      · exact a1
      · exact a2
      · exact a3
      · rfl
  refine Tm_suc (fun k => by rw [y_X0_standsIn]) ?_
  refine Tm_ocE (c_length h hx) ?_
  refine Tm_ocE (c_length h hy) ?_
  refine b1 5000 _ ?_ ?_ ?_ ?_ ?_
  · rfl
  · rfl
  · rfl
  · rfl
  · rfl
/-- a value or an error, and nothing is changed -/
abbrev Qv (g : Nat → Prop) (σ : CS) : Int32 × CS → Prop := fun r => r.2 = σ ∧ (Gv g r.1 ∨ Rw r.1)
theorem kd_n {n : Nat} (hn : n < 8) (c : nI (kdC M x) = nI n) : kdC M x = n := by
  have q := kdC_lt M x
  rw [u_eq, u_n (by omega), u_n (by omega)] at c
  exact c
theorem c_contains (h : HQ g l t σ) (hx : Gv g (L.1 1)) (hy : Gv g (L.1 2)) : Tm (fun k => y_X0_contains k 0 L σ) (Qv g σ) := by
  have la := lnC_lt (σ.2.2.1 3) (L.1 1)
  have ea : uN (nI (lnC (σ.2.2.1 3) (L.1 1))) = lnC (σ.2.2.1 3) (L.1 1) := u_n (by omega)
  have err : Rw (-268435455) := by show 4026531840 ≤ uN (-268435455) ∧ ¬ uN (-268435455) % 16 = 0; decide
  have b6 : ∀ L' : LV, (Gv g (L'.1 100) ∨ Rw (L'.1 100)) → Tm (fun k => y_X0_contains k 6 L' σ) (Qv g σ) := by
    intro L' d
    refine Tm_suc (fun k => by rw [y_X0_contains]) ?_
    exact Tm_some ⟨rfl, d⟩
  have b8 : ∀ L' : LV, Tm (fun k => y_X0_contains k 8 L' σ) (Qv g σ) := by
    intro L'
    refine Tm_suc (fun k => by rw [y_X0_contains]) ?_
    exact Tm_oc c_truth (fun r q => Tm_some ⟨q.1, Or.inl (q.2 g)⟩)
  refine Tm_suc (fun k => by rw [y_X0_contains]) ?_
  refine Tm_ocE (c_kind h hx) ?_
  refine Tm_ite (fun c => ?_) (fun _ => Tm_ite (fun c => ?_) (fun _ => Tm_ite (fun c => ?_) (fun _ => ?_)))
  · have k4 := kd_n (n := 4) (by decide) c
    refine Tm_suc (fun k => by rw [y_X0_contains]) ?_
    refine Tm_ocE (c_kind h hy) ?_
    refine Tm_ite (fun d => ?_) (fun _ => ?_)
    · have k4' := kd_n (n := 4) (by decide) d
      refine Tm_oc (c_standsIn h hy hx k4' k4) (fun r q => ?_)
      have e : r.2 = σ := q
      rw [e]
      refine Tm_oc c_truth (fun r2 q2 => ?_)
      have e2 : r2.2 = σ := q2.1
      rw [e2]
      exact b6 _ (Or.inl (q2.2 g))
    · refine Tm_suc (fun k => by rw [y_X0_contains]) ?_
      exact b6 _ (Or.inr err)
  · have k5 := kd_n (n := 5) (by decide) c
    have hs : Sq5 g σ (L.1 1) := Sq5_k hx (by have z : kdC (σ.2.2.1 3) (L.1 1) = 5 := k5; omega)
    have b7 : ∀ (m : Nat) (L' : LV), uN (L'.1 4) + m = lnC (σ.2.2.1 3) (L.1 1) → L'.1 1 = L.1 1 → L'.1 2 = L.1 2 → Tm (fun k => y_X0_contains k 7 L' σ) (Qv g σ) := by
      intro m
      induction m with
      | zero =>
        intro L' a4 a1 a2
        refine Tm_suc (fun k => by rw [y_X0_contains]) ?_
        refine Tm_ocE (c_length h (by show Gv g (L'.1 1); rw [a1]; exact hx)) ?_
        refine Tm_yes ?_ (b8 _)
        show nI (lnC (σ.2.2.1 3) (L'.1 1)) ≤ L'.1 4
        rw [a1, u_le (by omega) (by omega)]
        omega
      | succ m ih =>
        intro L' a4 a1 a2
        have hs' : Sq5 g σ (L'.1 1) := by rw [a1]; exact hs
        refine Tm_suc (fun k => by rw [y_X0_contains]) ?_
        refine Tm_ocE (c_length h hs'.1) ?_
        refine Tm_ite (fun _ => b8 _) (fun _ => Tm_ite (fun _ => Tm_ite (fun _ => b8 _) (fun _ => ?_)) (fun _ => b8 _))
        refine Tm_ocE (c_member h hs'.1 hs'.2) ?_
        refine Tm_oc (c_same h (mbC_g h hs'.1 hs'.2) (by show Gv g (L'.1 2); rw [a2]; exact hy)) (fun r q => ?_)
        have e : r.2 = σ := q.1
        rw [e]
        refine ih _ ?_ ?_ ?_
        · show uN (L'.1 4 + 1) + m = _
          rw [u_inc (by omega)]; omega
        · exact a1
        · exact a2
    refine Tm_suc (fun k => by rw [y_X0_contains]) ?_
    refine b7 (lnC (σ.2.2.1 3) (L.1 1)) _ ?_ ?_ ?_
    · show 0 + _ = _; omega
    · rfl
    · rfl
  · have k6 := kd_n (n := 6) (by decide) c
    have hs : Sq5 g σ (L.1 1) := Sq5_k hx (by have z : kdC (σ.2.2.1 3) (L.1 1) = 6 := k6; omega)
    refine Tm_suc (fun k => by rw [y_X0_contains]) ?_
    refine Tm_oc (c_holds h hs hy) (fun r q => ?_)
    have e : r.2 = σ := q.1
    rw [e]
    exact Tm_oc c_truth (fun r q => Tm_some ⟨q.1, Or.inl (q.2 g)⟩)
  · refine Tm_suc (fun k => by rw [y_X0_contains]) ?_
    exact Tm_some ⟨rfl, Or.inr err⟩
theorem c_compared (h : HQ g l t σ) (hx : Gv g (L.1 2)) (hy : Gv g (L.1 3)) : Tm (fun k => y_X0_compared k 0 L σ) (Qv g σ) := by
  have b1 : ∀ L' : LV, Tm (fun k => y_X0_compared k 1 L' σ) (Qv g σ) := by
    intro L'
    refine Tm_suc (fun k => by rw [y_X0_compared]) ?_
    exact Tm_some ⟨rfl, Or.inr (by show 4026531840 ≤ uN (-268435455) ∧ ¬ uN (-268435455) % 16 = 0; decide)⟩
  have b8 : ∀ L' : LV, Tm (fun k => y_X0_compared k 8 L' σ) (Qv g σ) := by
    intro L'
    refine Tm_suc (fun k => by rw [y_X0_compared]) ?_
    exact Tm_oc c_truth (fun r q => Tm_some ⟨q.1, Or.inl (q.2 g)⟩)
  have b10 : ∀ L' : LV, Tm (fun k => y_X0_compared k 10 L' σ) (Qv g σ) := by
    intro L'
    refine Tm_suc (fun k => by rw [y_X0_compared]) ?_
    exact Tm_oc c_truth (fun r q => Tm_some ⟨q.1, Or.inl (q.2 g)⟩)
  have b12 : ∀ L' : LV, Tm (fun k => y_X0_compared k 12 L' σ) (Qv g σ) := by
    intro L'
    refine Tm_suc (fun k => by rw [y_X0_compared]) ?_
    exact Tm_oc c_truth (fun r q => Tm_some ⟨q.1, Or.inl (q.2 g)⟩)
  have b14 : ∀ L' : LV, Tm (fun k => y_X0_compared k 14 L' σ) (Qv g σ) := by
    intro L'
    refine Tm_suc (fun k => by rw [y_X0_compared]) ?_
    exact Tm_oc c_truth (fun r q => Tm_some ⟨q.1, Or.inl (q.2 g)⟩)
  have b2 : ∀ L' : LV, L'.1 2 = L.1 2 → L'.1 3 = L.1 3 → Tm (fun k => y_X0_compared k 2 L' σ) (Qv g σ) := by
    intro L' a2 a3
    refine Tm_suc (fun k => by rw [y_X0_compared]) ?_
    refine Tm_oc (c_compare h (by show Gv g (L'.1 2); rw [a2]; exact hx) (by show Gv g (L'.1 3); rw [a3]; exact hy)) (fun r q => ?_)
    have e : r.2 = σ := q
    rw [e]
    refine Tm_ite (fun _ => ?_) (fun _ => Tm_ite (fun _ => ?_) (fun _ => Tm_ite (fun _ => ?_) (fun _ => ?_)))
    · refine Tm_suc (fun k => by rw [y_X0_compared]) ?_
      refine Tm_ite (fun _ => ?_) (fun _ => b8 _)
      refine Tm_suc (fun k => by rw [y_X0_compared]) ?_
      exact b8 _
    · refine Tm_suc (fun k => by rw [y_X0_compared]) ?_
      refine Tm_ite (fun _ => ?_) (fun _ => b10 _)
      refine Tm_suc (fun k => by rw [y_X0_compared]) ?_
      exact b10 _
    · refine Tm_suc (fun k => by rw [y_X0_compared]) ?_
      refine Tm_ite (fun _ => ?_) (fun _ => b12 _)
      refine Tm_suc (fun k => by rw [y_X0_compared]) ?_
      exact b12 _
    · refine Tm_suc (fun k => by rw [y_X0_compared]) ?_
      refine Tm_ite (fun _ => ?_) (fun _ => b14 _)
      refine Tm_suc (fun k => by rw [y_X0_compared]) ?_
      exact b14 _
  refine Tm_suc (fun k => by rw [y_X0_compared]) ?_
  refine Tm_ocE (c_kind h hx) ?_
  refine Tm_ocE (c_kind h hy) ?_
  exact Tm_ite (fun _ => Tm_ite (fun _ => b2 _ rfl rfl) (fun _ => Tm_ite (fun _ => b2 _ rfl rfl) (fun _ => b1 _))) (fun _ => b1 _)
end CRU
end JnS357
