/-! The class: billions of a whole. -/
/-- what limbs say -/
def lvC (f : Nat → Int32) : Nat → Nat
  | 0 => 0
  | n + 1 => lvC f n + uN (f n) * 4294967296 ^ n
theorem lvC_lt (f : Nat → Int32) : ∀ n, lvC f n < 4294967296 ^ n
  | 0 => Nat.zero_lt_one
  | n + 1 => by
    have a := lvC_lt f n
    have b := u_lt (f n)
    show lvC f n + uN (f n) * 4294967296 ^ n < 4294967296 ^ (n + 1)
    have c : uN (f n) * 4294967296 ^ n + 4294967296 ^ n ≤ 4294967296 ^ (n + 1) := by
      rw [Nat.pow_succ, Nat.mul_comm (4294967296 ^ n) 4294967296, ← Nat.succ_mul]
      exact Nat.mul_le_mul_right _ b
    omega
theorem lvC_hi {f : Nat → Int32} {i : Nat} {q : Int32} : ∀ n, n ≤ i → lvC (upd f i q) n = lvC f n
  | 0, _ => rfl
  | n + 1, h => by
    show lvC (upd f i q) n + uN (upd f i q n) * _ = lvC f n + uN (f n) * _
    rw [lvC_hi n (by omega), upd_other (by omega)]
theorem lvC_up {f : Nat → Int32} {i : Nat} {q : Int32} : ∀ n, i < n → lvC (upd f i q) n + uN (f i) * 4294967296 ^ i = lvC f n + uN q * 4294967296 ^ i
  | 0, h => absurd h (by omega)
  | n + 1, h => by
    show lvC (upd f i q) n + uN (upd f i q n) * 4294967296 ^ n + uN (f i) * 4294967296 ^ i = lvC f n + uN (f n) * 4294967296 ^ n + uN q * 4294967296 ^ i
    by_cases c : i = n
    · rw [lvC_hi n (by omega), c, upd_same]
      omega
    · have a := lvC_up (f := f) (i := i) (q := q) n (by omega)
      rw [upd_other (Ne.symm c)]
      omega
theorem jb_lim (l : Int32) : (l.toInt64 &&& 4294967295).toBitVec.toNat = uN l := by
  show (l.toBitVec.signExtend 64 &&& 4294967295#64).toNat = _
  rw [BitVec.toNat_and]
  show (l.toBitVec.signExtend 64).toNat &&& 4294967295 = _
  rw [show (4294967295 : Nat) = 2 ^ 32 - 1 from rfl, Nat.and_two_pow_sub_one_eq_mod, BitVec.toNat_signExtend, BitVec.toNat_setWidth]
  have b := u_lt l
  show (uN l % 2 ^ 64 + _) % 2 ^ 32 = uN l
  split <;> omega
theorem jb_d {r : Int64} {R : Nat} (hr : r.toBitVec.toNat = R) (h : R < 1073741824) (l : Int32) : ((r <<< ((32 : Int32).toInt64 &&& 63)) ||| (l.toInt64 &&& 4294967295)).toBitVec.toNat = R * 4294967296 + uN l := by
  have b := u_lt l
  show ((r.toBitVec <<< (((32 : Int32).toInt64 &&& 63).toBitVec.smod 64)) ||| (l.toInt64 &&& 4294967295).toBitVec).toNat = _
  rw [BitVec.toNat_or, BitVec.shiftLeft_eq', BitVec.toNat_shiftLeft, show (((32 : Int32).toInt64 &&& 63).toBitVec.smod 64).toNat = 32 from by decide, jb_lim, hr, Nat.shiftLeft_eq, Nat.mod_eq_of_lt (by omega), ← Nat.shiftLeft_eq, ← Nat.shiftLeft_add_eq_or_of_lt (by omega), Nat.shiftLeft_eq]
theorem jb_int {x : Int64} {n : Nat} (h : x.toBitVec.toNat = n) (hn : n < 9223372036854775808) : x.toInt = (n : Int) := by
  show x.toBitVec.toInt = _
  rw [BitVec.toInt_eq_toNat_of_lt (by omega), h]
theorem jb_nat {x : Int64} {n : Nat} (h : x.toInt = (n : Int)) : x.toBitVec.toNat = n := by
  have e : x.toBitVec.toInt = (n : Int) := h
  rw [BitVec.toInt_eq_toNat_cond] at e
  have b := x.toBitVec.isLt
  split at e <;> omega
theorem jb_32 {x : Int64} {n : Nat} (h : x.toBitVec.toNat = n) (hn : n < 4294967296) : uN x.toInt32 = n := by
  show (x.toBitVec.signExtend 32).toNat = n
  rw [BitVec.signExtend_eq_setWidth_of_le _ (by decide), BitVec.toNat_setWidth, h]
  exact Nat.mod_eq_of_lt hn
/-- one limb of a division -/
theorem jb_step {d : Int64} {D : Nat} (hd : d.toBitVec.toNat = D) (h : D < 4294967296000000000) : uN ((d / 1000000000).toInt32) = D / 1000000000 ∧ (d - d / 1000000000 * 1000000000).toBitVec.toNat = D % 1000000000 := by
  have hx := jb_int hd (by omega)
  have eB : (1000000000 : Int64).toInt = ((1000000000 : Nat) : Int) := rfl
  have e1 : (d / 1000000000).toInt = ((D / 1000000000 : Nat) : Int) := by
    rw [Int64.toInt_div, hx, eB, Int.tdiv_eq_ediv_of_nonneg (by omega), ← Int.natCast_ediv]
    exact Int.bmod_eq_of_le (by omega) (by omega)
  have e2 : (d / 1000000000 * 1000000000).toInt = ((D / 1000000000 * 1000000000 : Nat) : Int) := by
    rw [Int64.toInt_mul, e1, eB, ← Int.natCast_mul]
    exact Int.bmod_eq_of_le (by omega) (by omega)
  have e3 : (d - d / 1000000000 * 1000000000).toInt = ((D % 1000000000 : Nat) : Int) := by
    rw [Int64.toInt_sub, e2, hx, show (D : Int) - ((D / 1000000000 * 1000000000 : Nat) : Int) = ((D % 1000000000 : Nat) : Int) by omega]
    exact Int.bmod_eq_of_le (by omega) (by omega)
  exact ⟨jb_32 (jb_nat e1) (by omega), jb_nat e3⟩
section CRP
variable {g g' g2 : Nat → Prop} {l l' : List Nat} {t t' t2 : Nat} {σ σ' σ2 : CS} {L : LV} {x y i : Int32} {M M' : Nat → Int32}
theorem tb_1 {n v : Nat} (n1 : n ≤ 72) : ∀ (i : Nat) (L : LV) (f : Nat → Int32) (R W : Nat), (uN (L.1 4) + 1 = i ∨ (2147483648 ≤ uN (L.1 4) ∧ i = 0)) → i ≤ n → (L.2.1 2).toBitVec.toNat = R → R < 1000000000 → lvC f n = lvC f i + W → lvC f i + R * 4294967296 ^ i + 1000000000 * W = v → Tm (fun k => y_X10_takeBillion k 1 L (uF σ 5 f)) (fun r => ∃ f', r.2 = uF σ 5 f' ∧ lvC f' n = v / 1000000000) := by
  intro i
  induction i with
  | zero =>
    intro L f R W d4 hi d2 hR e1 e2
    refine Tm_suc (fun k => by rw [y_X10_takeBillion]) ?_
    refine Tm_yes (by rw [u_neg]; omega) ?_
    refine Tm_suc (fun k => by rw [y_X10_takeBillion]) ?_
    refine Tm_some ⟨f, rfl, ?_⟩
    have a : lvC f 0 = 0 := rfl
    rw [a] at e1 e2
    rw [Nat.pow_zero] at e2
    omega
  | succ i ih =>
    intro L f R W d4 hi d2 hR e1 e2
    have d4' : uN (L.1 4) = i := by omega
    refine Tm_suc (fun k => by rw [y_X10_takeBillion]) ?_
    refine Tm_ite (fun c => absurd c (by rw [u_neg]; omega)) (fun _ => ?_)
    refine Tm_chk (u_in (by omega) (by decide)) ?_
    refine Tm_chk0 (by decide) ?_
    refine Tm_chk (u_in (by omega) (by decide)) ?_
    refine Tm_chk0 (by decide) ?_
    rw [u_cl (x := L.1 4) (by omega), d4', uF_a]
    have ef : (uF σ 5 f).2.2.1 5 i = f i := rfl
    rw [ef]
    have ul := u_lt (f i)
    obtain ⟨q1, q2⟩ := jb_step (jb_d d2 (by omega) (f i)) (by omega)
    have dm := Nat.div_add_mod (R * 4294967296 + uN (f i)) 1000000000
    have ml : (R * 4294967296 + uN (f i)) % 1000000000 < 1000000000 := Nat.mod_lt _ (by decide)
    have up := lvC_up (f := f) (i := i) (q := (((L.2.1 2 <<< ((32 : Int32).toInt64 &&& 63)) ||| ((f i).toInt64 &&& 4294967295)) / 1000000000).toInt32) n (by omega)
    have s1 : lvC f (i + 1) = lvC f i + uN (f i) * 4294967296 ^ i := rfl
    refine ih _ _ ((R * 4294967296 + uN (f i)) % 1000000000) (W + (R * 4294967296 + uN (f i)) / 1000000000 * 4294967296 ^ i) ?_ (by omega) ?_ ml ?_ ?_
    · show uN (L.1 4 + (-1)) + 1 = i ∨ (2147483648 ≤ uN (L.1 4 + (-1)) ∧ i = 0)
      by_cases c : uN (L.1 4) = 0
      · right
        rw [show L.1 4 = 0 from by rw [u_eq, c]; rfl]
        exact ⟨by decide, by omega⟩
      · left
        rw [u_dec (by omega)]; omega
    · exact q2
    · rw [lvC_hi i (by omega)]
      rw [q1] at up
      omega
    · rw [lvC_hi i (by omega)]
      generalize hD : (R * 4294967296 + uN (f i)) / 1000000000 = Q at dm
      generalize hM : (R * 4294967296 + uN (f i)) % 1000000000 = Z at dm
      have a1 : (R * 4294967296 + uN (f i)) * 4294967296 ^ i = R * 4294967296 ^ (i + 1) + uN (f i) * 4294967296 ^ i := by
        rw [Nat.add_mul, Nat.pow_succ, Nat.mul_assoc, Nat.mul_comm 4294967296 (4294967296 ^ i)]
      rw [← dm, Nat.add_mul, Nat.mul_assoc] at a1
      rw [Nat.mul_add]
      omega
theorem c_takeBillion {n : Nat} (n1 : n ≤ 72) (hn : uN (L.1 1) = n) : Tm (fun k => y_X10_takeBillion k 0 L σ) (fun r => ∃ f', r.2 = uF σ 5 f' ∧ lvC f' n = lvC (σ.2.2.1 5) n / 1000000000) := by
  refine Tm_suc (fun k => by rw [y_X10_takeBillion]) ?_
  have q := tb_1 (σ := σ) (n := n) (v := lvC (σ.2.2.1 5) n) n1 n (lI (lJ L 2 0) 4 (L.1 1 - 1)) (σ.2.2.1 5) 0 0 (by
    show uN (L.1 1 - 1) + 1 = n ∨ (2147483648 ≤ uN (L.1 1 - 1) ∧ n = 0)
    by_cases c : uN (L.1 1) = 0
    · right
      rw [show L.1 1 = 0 from by rw [u_eq, c]; rfl]
      exact ⟨by decide, by omega⟩
    · left
      rw [u_sub (by show 1 ≤ _; omega)]
      show uN (L.1 1) - 1 + 1 = n
      omega) (Nat.le_refl _) rfl (by decide) rfl (by rw [Nat.zero_mul]; rfl)
  rw [uF_id] at q
  exact q
end CRP
