/-! The class: bits of handles and headers. -/
/-- its bits as a number -/
def uN (x : Int32) : Nat := x.toBitVec.toNat
theorem u_lt (x : Int32) : uN x < 4294967296 := x.toBitVec.isLt
theorem u_of (x : Int32) : x = nI (uN x) := n_ofbv x
theorem u_n {m : Nat} (h : m < 4294967296) : uN (nI m) = m := by
  show (Int32.ofNat m).toBitVec.toNat = m
  rw [Int32.toBitVec_ofNat', BitVec.toNat_ofNat]
  exact Nat.mod_eq_of_lt h
theorem u_int (x : Int32) : x.toInt = if uN x < 2147483648 then (uN x : Int) else (uN x : Int) - 4294967296 := by
  show x.toBitVec.toInt = _
  rw [BitVec.toInt_eq_toNat_cond]
  show (if 2 * uN x < 2 ^ 32 then (uN x : Int) else (uN x : Int) - ((2 ^ 32 : Nat) : Int)) = _
  by_cases c : uN x < 2147483648
  · rw [if_pos c, if_pos (by omega)]
  · rw [if_neg c, if_neg (by omega)]; rfl
theorem u_and (x y : Int32) : uN (x &&& y) = uN x &&& uN y := by
  unfold uN; rw [Int32.toBitVec_and, BitVec.toNat_and]
theorem u_or (x y : Int32) : uN (x ||| y) = uN x ||| uN y := by
  unfold uN; rw [Int32.toBitVec_or, BitVec.toNat_or]
theorem u_shr (x s : Int32) {k : Nat} (hs : (s.toUInt32 &&& Int32.toUInt32 31).toBitVec.toNat % 32 = k) : uN ((x.toUInt32 >>> (s.toUInt32 &&& Int32.toUInt32 31)).toInt32) = uN x / 2 ^ k := by
  show (x.toUInt32 >>> (s.toUInt32 &&& Int32.toUInt32 31)).toBitVec.toNat = _
  rw [UInt32.toBitVec_shiftRight]
  show (x.toBitVec >>> ((s.toUInt32 &&& Int32.toUInt32 31).toBitVec % 32)).toNat = _
  rw [BitVec.ushiftRight_eq', show ((s.toUInt32 &&& Int32.toUInt32 31).toBitVec % 32).toNat = k from by rw [BitVec.toNat_umod]; exact hs, BitVec.toNat_ushiftRight, Nat.shiftRight_eq_div_pow]
  rfl
theorem u_and7 (x : Int32) : x &&& 7 = nI (uN x % 8) := by
  rw [u_of (x &&& 7), u_and]
  exact congrArg nI (Nat.and_two_pow_sub_one_eq_mod (uN x) 3)
theorem u_and12 (x : Int32) : x &&& 4095 = nI (uN x % 4096) := by
  rw [u_of (x &&& 4095), u_and]
  exact congrArg nI (Nat.and_two_pow_sub_one_eq_mod (uN x) 12)
theorem u_and10 (x : Int32) : x &&& 1023 = nI (uN x % 1024) := by
  rw [u_of (x &&& 1023), u_and]
  exact congrArg nI (Nat.and_two_pow_sub_one_eq_mod (uN x) 10)
theorem u_and28 (x : Int32) : x &&& 268435455 = nI (uN x % 268435456) := by
  rw [u_of (x &&& 268435455), u_and]
  exact congrArg nI (Nat.and_two_pow_sub_one_eq_mod (uN x) 28)
theorem u_and8 (x : Int32) : x &&& 255 = nI (uN x % 256) := by
  rw [u_of (x &&& 255), u_and]
  exact congrArg nI (Nat.and_two_pow_sub_one_eq_mod (uN x) 8)
/-- the tag -/
theorem u_tag (x : Int32) : x &&& (-268435456) = nI (uN x / 268435456 * 268435456) := by
  rw [u_of (x &&& (-268435456)), u_and]
  congr 1
  show uN x &&& 4026531840 = _
  have h := u_lt x
  have e : uN x &&& 4026531840 = (uN x / 2 ^ 28 &&& 15) * 2 ^ 28 := by
    apply Nat.eq_of_testBit_eq
    intro i
    rw [Nat.testBit_and, Nat.testBit_mul_two_pow]
    have e2 : Nat.testBit 4026531840 i = (decide (28 ≤ i) && Nat.testBit 15 (i - 28)) := by
      rw [show (4026531840 : Nat) = 15 * 2 ^ 28 from rfl, Nat.testBit_mul_two_pow]
    rw [e2]
    by_cases c : 28 ≤ i
    · rw [decide_eq_true c, Bool.true_and, Bool.true_and, Nat.testBit_and, Nat.testBit_div_two_pow]
      congr 2
      omega
    · rw [decide_eq_false c, Bool.false_and, Bool.and_false, Bool.false_and]
  rw [e, show (15 : Nat) = 2 ^ 4 - 1 from rfl, Nat.and_two_pow_sub_one_eq_mod, Nat.mod_eq_of_lt (by omega)]
/-- of a header: kind, how many, ints behind it, height -/
def hdK (H : Nat) : Nat := H % 8
def hdL (H : Nat) : Nat := H / 16 % 4096
def hdW (H : Nat) : Nat := if H % 8 = 4 then (hdL H + 3) / 4 else hdL H
def hdT (H : Nat) : Nat := H / 67108864
/-- a value: held by its handle, or a good cell -/
def Gv (g : Nat → Prop) (x : Int32) : Prop := (2147483648 ≤ uN x ∧ uN x < 3489660928) ∨ ∃ p, x = nI p ∧ p < 160000 ∧ g p
/-- a number of the machine's own, or an error -/
def Rw (x : Int32) : Prop := 4026531840 ≤ uN x
/-- how high a value is -/
def hgt (M : Nat → Int32) (x : Int32) : Nat := if uN x < 2147483648 then hdT (uN (M (uN x))) else 0
/-- a good cell -/
def CGo (M : Nat → Int32) (g : Nat → Prop) (t p : Nat) : Prop := uN (M p) < 2147483648 ∧ p + hdW (uN (M p)) < t ∧ (hdK (uN (M p)) = 2 ∨ hdK (uN (M p)) = 4 ∨ hdK (uN (M p)) = 5 ∨ hdK (uN (M p)) = 6) ∧ hdT (uN (M p)) ≤ 30 ∧ (hdK (uN (M p)) = 2 → 1 ≤ hdL (uN (M p)) ∧ hdL (uN (M p)) ≤ 32) ∧ (5 ≤ hdK (uN (M p)) → hdL (uN (M p)) ≤ 999 ∧ 1 ≤ hdT (uN (M p)) ∧ ∀ i, i < hdL (uN (M p)) → Gv g (M (p + 1 + i)) ∧ hgt M (M (p + 1 + i)) < hdT (uN (M p)))
/-- cells one behind the other -/
def TlC (M : Nat → Int32) (t : Nat) : Nat → List Nat → Prop
  | a, [] => a = t
  | a, p :: l => p = a ∧ uN (M p) < 2147483648 ∧ p + 1 + hdW (uN (M p)) ≤ t ∧ TlC M t (p + 1 + hdW (uN (M p))) l
/-- the heap of the house -/
def HQ (g : Nat → Prop) (l : List Nat) (t : Nat) (σ : CS) : Prop := σ.1 1 = nI t ∧ (3 ≤ t ∧ t ≤ sN σ 3) ∧ ((sN σ 3 = 16384 ∧ sN σ 1 = 512 ∧ sN σ 2 = 512) ∨ (sN σ 3 = 160000 ∧ sN σ 1 = 5000 ∧ sN σ 2 = 5000)) ∧ (g 0 ∧ g 1 ∧ g 2) ∧ (σ.2.2.1 3 0 = 65540 ∧ σ.2.2.1 3 1 = 67174405 ∧ σ.2.2.1 3 2 = 67174414) ∧ TlC (σ.2.2.1 3) t 3 l ∧ ∀ p, g p → (p < 3 ∨ p ∈ l) ∧ CGo (σ.2.2.1 3) g t p
section CRD
variable {g : Nat → Prop} {l : List Nat} {t : Nat} {σ : CS} {L : LV} {x : Int32}
theorem HQ_n (h : HQ g l t σ) : sN σ 3 ≤ 160000 := by
  rcases h.2.2.1 with z | z <;> omega
/-- a value below nought or not -/
theorem Gv_i (h : Gv g x) : (x < 0 ∧ 2147483648 ≤ uN x ∧ uN x < 3489660928) ∨ (¬ x < 0 ∧ ∃ p, x = nI p ∧ p < 160000 ∧ g p ∧ uN x = p) := by
  rcases h with ⟨a, b⟩ | ⟨p, a, b, c⟩
  · refine Or.inl ⟨?_, a, b⟩
    rw [i_lt, u_int, if_neg (by omega)]
    show (uN x : Int) - 4294967296 < 0
    omega
  · have e : uN x = p := by rw [a]; exact u_n (by omega)
    refine Or.inr ⟨?_, p, a, b, c, e⟩
    rw [i_lt, u_int, if_pos (by omega)]
    show ¬ (uN x : Int) < 0
    omega
theorem Gv_sg {g' : Nat → Prop} (h : Gv g x) (hs : ∀ p, g p → g' p) : Gv g' x := h.imp id (fun ⟨p, a, b, c⟩ => ⟨p, a, b, hs p c⟩)
/-- the kind of a value -/
def kdC (M : Nat → Int32) (x : Int32) : Nat := if uN x < 2147483648 then hdK (uN (M (uN x))) else uN x / 268435456 % 8
theorem c_kind (h : HQ g l t σ) (hv : Gv g x) (d1 : L.1 1 = x) : Tm (fun k => y_X1_kind k 0 L σ) (fun r => r = (nI (kdC (σ.2.2.1 3) x), σ)) := by
  have hn := HQ_n h
  refine Tm_suc (fun k => by rw [y_X1_kind]) ?_
  rw [d1]
  rcases Gv_i hv with ⟨a, b, c⟩ | ⟨a, p, e, p1, p2, eu⟩
  · refine Tm_ite (fun z => absurd z ?_) (fun _ => ?_)
    · rw [i_lt] at a; rw [i_le]; omega
    refine Tm_suc (fun k => by rw [y_X1_kind]) ?_
    refine Tm_some ?_
    unfold kdC
    rw [if_neg (by omega)]
    refine Prod.ext ?_ rfl
    rw [u_and7, u_shr x 28 (k := 28) (by decide)]
    show upd L.1 100 (nI (uN x / 268435456 % 8)) 100 = nI (uN x / 268435456 % 8)
    exact upd_same
  · refine Tm_ite (fun _ => ?_) (fun z => absurd ?_ z)
    · refine Tm_suc (fun k => by rw [y_X1_kind]) ?_
      obtain ⟨_, q1⟩ := h.2.2.2.2.2.2 p p2
      have q2 := q1.2.1
      have q3 := h.2.1.2
      rw [d1, e]
      refine Tm_chk (n_in (by omega) (by omega)) ?_
      rw [n_cl (p := p) (by omega)]
      refine Tm_suc (fun k => by rw [y_X1_kind]) ?_
      refine Tm_some ?_
      unfold kdC
      rw [if_pos (by rw [u_n (by omega)]; omega), u_n (by omega)]
      refine Prod.ext ?_ rfl
      show (upd L.1 100 _ 100 : Int32) = _
      rw [upd_same, u_and7]; rfl
    · rw [i_lt] at a; rw [i_le]; omega
end CRD
