/-! What rows of limbs are worth. -/
def dg (f : Nat → Int32) (i : Nat) : Nat := (f i).toNatClampNeg
def vl (f : Nat → Int32) : Nat → Nat
  | 0 => 0
  | n + 1 => vl f n + dg f n * 65536 ^ n
theorem LM_dg {f : Nat → Int32} {n i : Nat} (h : LM f n) (hi : i < n) : f i = nI (dg f i) ∧ dg f i ≤ 65535 := by
  obtain ⟨d, d1, d2⟩ := h i hi
  unfold dg
  rw [d2, n_cl (by omega)]
  exact ⟨rfl, d1⟩
theorem dg_nI {f : Nat → Int32} {i d : Nat} (h : f i = nI d) (hd : d < 2147483648) : dg f i = d := by
  unfold dg; rw [h, n_cl hd]
theorem vl_lt {f : Nat → Int32} : ∀ n : Nat, LM f n → vl f n < 65536 ^ n
  | 0, _ => Nat.zero_lt_one
  | n + 1, h => by
    have ih := vl_lt n (LM_mo h (by omega))
    have hd := (LM_dg h (Nat.lt_succ_self n)).2
    show vl f n + dg f n * 65536 ^ n < 65536 ^ (n + 1)
    rw [Nat.pow_succ]
    have h1 : dg f n * 65536 ^ n ≤ 65535 * 65536 ^ n := Nat.mul_le_mul_right _ hd
    have h2 : 65536 ^ n * 65536 = 65536 * 65536 ^ n := Nat.mul_comm _ _
    omega
theorem vl_ext {f f' : Nat → Int32} : ∀ n : Nat, (∀ i, i < n → f' i = f i) → vl f' n = vl f n
  | 0, _ => rfl
  | n + 1, h => by
    show vl f' n + dg f' n * 65536 ^ n = vl f n + dg f n * 65536 ^ n
    rw [vl_ext n (fun i hi => h i (by omega))]
    unfold dg
    rw [h n (by omega)]
theorem vl_upd {f : Nat → Int32} {n i : Nat} {x : Int32} (h : n ≤ i) : vl (upd f i x) n = vl f n := vl_ext n (fun j hj => upd_other (by omega))
theorem pow_pos16 (n : Nat) : 1 ≤ 65536 ^ n := Nat.pow_pos (by decide)
theorem pow16 (n : Nat) : 65536 ^ n = 2 ^ (16 * n) := by rw [Nat.pow_mul]
/-- how many limbs a row has that is below a power of two -/
theorem vl_len {f : Nat → Int32} {n j : Nat} (h : n = 0 ∨ 65536 ^ (n - 1) ≤ vl f n) (hj : vl f n < 2 ^ j) : 16 * n ≤ j + 15 := by
  rcases h with h | h
  · omega
  · have h1 : 65536 ^ (n - 1) < 2 ^ j := Nat.lt_of_le_of_lt h hj
    rw [pow16] at h1
    have := (Nat.pow_lt_pow_iff_right (a := 2) (by decide)).mp h1
    omega
/-- the top limb -/
theorem vl_top {f : Nat → Int32} {n : Nat} (h : LM f (n + 1)) : 65536 ^ n ≤ vl f (n + 1) ↔ ¬ f n = 0 := by
  have h1 := vl_lt n (LM_mo h (by omega))
  obtain ⟨e, e2⟩ := LM_dg h (Nat.lt_succ_self n)
  have h2 : vl f (n + 1) = vl f n + dg f n * 65536 ^ n := rfl
  constructor
  · intro z hz
    rw [e, n_eq0 (by omega)] at hz
    rw [h2, hz, Nat.zero_mul] at z
    omega
  · intro z
    have hd : 1 ≤ dg f n := by
      by_cases w : dg f n = 0
      · exact absurd (by rw [e, w]; rfl) z
      · omega
    have := Nat.mul_le_mul_right (65536 ^ n) hd
    rw [h2]; omega
theorem n_shl1 {d c : Nat} (hd : d ≤ 65535) (hc : c ≤ 1) : (nI d <<< ((1 : Int32) &&& 31)) ||| nI c = nI (2 * d + c) := by
  refine Int32.toBitVec_inj.mp ?_
  show (nI d).toBitVec <<< (((1 : Int32) &&& 31).toBitVec.smod 32) ||| (nI c).toBitVec = (nI (2 * d + c)).toBitVec
  apply BitVec.eq_of_toNat_eq
  have e : (((1 : Int32) &&& 31).toBitVec.smod 32) = 1#32 := by decide
  rw [e, BitVec.toNat_or, BitVec.shiftLeft_eq', BitVec.toNat_shiftLeft]
  show ((Int32.ofNat d).toBitVec.toNat <<< 1 % 2 ^ 32) ||| (Int32.ofNat c).toBitVec.toNat = (Int32.ofNat (2 * d + c)).toBitVec.toNat
  rw [Int32.toBitVec_ofNat', Int32.toBitVec_ofNat', Int32.toBitVec_ofNat']
  simp only [BitVec.toNat_ofNat]
  rw [Nat.mod_eq_of_lt (a := d) (by omega), Nat.mod_eq_of_lt (a := c) (by omega), Nat.mod_eq_of_lt (a := 2 * d + c) (by omega), Nat.shiftLeft_eq]
  rw [Nat.mod_eq_of_lt (by omega)]
  rcases Nat.lt_or_ge c 1 with h | h
  · have : c = 0 := by omega
    subst this
    simp [Nat.mul_comm]
  · have : c = 1 := by omega
    subst this
    have h2 : d * 2 ^ 1 = 2 * d := by omega
    rw [h2]
    exact (Nat.two_pow_add_eq_or_of_lt (i := 1) (b := 1) (by decide) d).symm
theorem n_and (m : Nat) (hm : m < 2147483648) : nI m &&& 65535 = nI (m % 65536) := by
  refine Int32.toBitVec_inj.mp ?_
  apply BitVec.eq_of_toNat_eq
  show (nI m &&& 65535).toBitVec.toNat = (nI (m % 65536)).toBitVec.toNat
  rw [Int32.toBitVec_and, BitVec.toNat_and]
  show (Int32.ofNat m).toBitVec.toNat &&& 65535 = (Int32.ofNat (m % 65536)).toBitVec.toNat
  rw [Int32.toBitVec_ofNat', Int32.toBitVec_ofNat']
  simp only [BitVec.toNat_ofNat]
  rw [Nat.mod_eq_of_lt (a := m) (by omega), Nat.mod_eq_of_lt (a := m % 65536) (by omega)]
  exact Nat.and_two_pow_sub_one_eq_mod m 16
theorem n_shr (m : Nat) (hm : m < 2147483648) : nI m >>> ((16 : Int32) &&& 31) = nI (m / 65536) := by
  rw [i_eq, i_shr16, n_int hm, n_int (by omega)]
  omega
/-- two rows are compared: what it says -/
theorem s_cmpR46v {σ : MS} {n m : Nat} (hn : n ≤ 139) (hm : m ≤ 139) (hR : LM (σ.2.2 46) n) (hB : LM (σ.2.2 43) m) (hz : n = 0 ∨ 65536 ^ (n - 1) ≤ vl (σ.2.2 46) n) {L : Nat → Int32} (h1 : L 1 = nI n) (h3 : L 3 = nI m) : Tm (fun k => x_compareRows__46__43 k 0 L σ) (fun r => r.2 = σ ∧ (r.1 < 0 ∨ vl (σ.2.2 43) m ≤ vl (σ.2.2 46) n)) := by
  have l2 : ∀ N : Nat → Int32, (N 4 < 0 ∨ vl (σ.2.2 43) m ≤ vl (σ.2.2 46) n) → Tm (fun k => x_compareRows__46__43 k 2 N σ) (fun r => r.2 = σ ∧ (r.1 < 0 ∨ vl (σ.2.2 43) m ≤ vl (σ.2.2 46) n)) := fun N hN => by
    refine Tm_suc (fun k => by rw [x_compareRows__46__43]) ?_
    exact Tm_some ⟨rfl, hN⟩
  -- rows of one length: those above i are worth the same
  have l1 : n = m → ∀ (i : Nat) (N : Nat → Int32), i ≤ n → N 5 = nI i - 1 → (N 4 = 0 → vl (σ.2.2 46) n + vl (σ.2.2 43) i = vl (σ.2.2 43) m + vl (σ.2.2 46) i) → (¬ N 4 = 0 → N 4 < 0 ∨ vl (σ.2.2 43) m ≤ vl (σ.2.2 46) n) → Tm (fun k => x_compareRows__46__43 k 1 N σ) (fun r => r.2 = σ ∧ (r.1 < 0 ∨ vl (σ.2.2 43) m ≤ vl (σ.2.2 46) n)) := by
    intro hnm i
    induction i with
    | zero =>
      intro N hi n5 he hne
      refine Tm_suc (fun k => by rw [x_compareRows__46__43]) ?_
      rw [n5]
      refine Tm_ite (fun _ => l2 N ?_) (fun z => absurd (show nI 0 - 1 < 0 by decide) z)
      by_cases z : N 4 = 0
      · have := he z
        have h0 : vl (σ.2.2 43) 0 = 0 := rfl
        have h0' : vl (σ.2.2 46) 0 = 0 := rfl
        exact Or.inr (by omega)
      · exact hne z
    | succ i ih =>
      intro N hi n5 he hne
      rw [show nI (i + 1) - 1 = nI i from n_sub (p := i + 1) (q := 1) (by omega) (by omega)] at n5
      refine Tm_suc (fun k => by rw [x_compareRows__46__43]) ?_
      rw [n5]
      refine Tm_ite (fun z => absurd ((n_lt (q := 0) (by omega) (by decide)).mp z) (by omega)) (fun _ => ?_)
      refine Tm_ite (fun z => ?_) (fun z => l2 N (hne z))
      refine Tm_chk (n_in (by omega) (by omega)) ?_
      refine Tm_chk (n_in (by omega) (by omega)) ?_
      rw [n_cl (p := i) (by omega)]
      obtain ⟨r1, r2⟩ := LM_dg hR (i := i) (by omega)
      obtain ⟨b1, b2⟩ := LM_dg hB (i := i) (by omega)
      have he := he z
      have v1 : vl (σ.2.2 46) (i + 1) = vl (σ.2.2 46) i + dg (σ.2.2 46) i * 65536 ^ i := rfl
      have v2 : vl (σ.2.2 43) (i + 1) = vl (σ.2.2 43) i + dg (σ.2.2 43) i * 65536 ^ i := rfl
      have l1 := vl_lt i (LM_mo hR (by omega))
      have l2' := vl_lt i (LM_mo hB (by omega))
      refine ih _ (by omega) (by show nI i + (-1) = nI i - 1; exact (Int32.sub_eq_add_neg _ _).symm) (fun w => ?_) (fun w => ?_)
      · have w : σ.2.2 46 i - σ.2.2 43 i = 0 := w
        rw [r1, b1, n_sub0 (by omega) (by omega)] at w
        rw [v1, v2, w] at he
        omega
      · have w : ¬ σ.2.2 46 i - σ.2.2 43 i = 0 := w
        show σ.2.2 46 i - σ.2.2 43 i < 0 ∨ _
        rw [r1, b1] at w ⊢
        rw [n_sub0 (by omega) (by omega)] at w
        have e : (nI (dg (σ.2.2 46) i) - nI (dg (σ.2.2 43) i)).toInt = (dg (σ.2.2 46) i : Int) - dg (σ.2.2 43) i := by
          rw [i_sub (by rw [n_int (by omega), n_int (by omega)]; omega) (by rw [n_int (by omega), n_int (by omega)]; omega), n_int (by omega), n_int (by omega)]
        by_cases q : dg (σ.2.2 46) i < dg (σ.2.2 43) i
        · left
          rw [i_lt, e]
          show _ < (0 : Int)
          omega
        · right
          have q1 : dg (σ.2.2 43) i + 1 ≤ dg (σ.2.2 46) i := by omega
          have q2 := Nat.mul_le_mul_right (65536 ^ i) q1
          rw [Nat.add_mul, Nat.one_mul] at q2
          rw [v1, v2] at he
          omega
  refine Tm_suc (fun k => by rw [x_compareRows__46__43]) ?_
  rw [h1, h3]
  by_cases hnm : n = m
  · refine l1 hnm n _ (Nat.le_refl _) rfl (fun _ => ?_) (fun w => absurd ?_ w)
    · rw [hnm]; omega
    · show nI n - nI m = 0
      rw [hnm, n_sub0 (by omega) (by omega)]
  · have e : (nI n - nI m).toInt = (n : Int) - m := by
      rw [i_sub (by rw [n_int (by omega), n_int (by omega)]; omega) (by rw [n_int (by omega), n_int (by omega)]; omega), n_int (by omega), n_int (by omega)]
    have fin : nI n - nI m < 0 ∨ vl (σ.2.2 43) m ≤ vl (σ.2.2 46) n := by
      by_cases q : n < m
      · left
        rw [i_lt, e]
        show _ < (0 : Int)
        omega
      · right
        have hb := vl_lt m hB
        have hp : 65536 ^ m ≤ 65536 ^ (n - 1) := Nat.pow_le_pow_right (by decide) (by omega)
        rcases hz with hz | hz <;> omega
    refine Tm_suc (fun k => by rw [x_compareRows__46__43]) ?_
    refine Tm_ite (fun _ => l2 _ fin) (fun _ => ?_)
    refine Tm_ite (fun w => absurd ?_ hnm) (fun _ => l2 _ fin)
    have w : nI n - nI m = 0 := w
    exact (n_sub0 (by omega) (by omega)).mp w
