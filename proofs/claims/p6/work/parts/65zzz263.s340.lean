/-! The class: bits of handles and headers. -/
/-- its bits as a number -/
def uN (x : Int32) : Nat := x.toBitVec.toNat
theorem u_lt (x : Int32) : uN x < 4294967296 := x.toBitVec.isLt
theorem u_of (x : Int32) : x = nI (uN x) := n_ofbv x
theorem u_n {m : Nat} (h : m < 4294967296) : uN (nI m) = m := by
  show (Int32.ofNat m).toBitVec.toNat = m
  rw [Int32.toBitVec_ofNat', BitVec.toNat_ofNat]
  exact Nat.mod_eq_of_lt h
theorem u_int (x : Int32) : x.toInt = if uN x < 2147483648 then (uN x : Int) else (uN x : Int) - 4294967296 := by
  show x.toBitVec.toInt = _
  rw [BitVec.toInt_eq_toNat_cond]
  show (if 2 * uN x < 2 ^ 32 then (uN x : Int) else (uN x : Int) - ((2 ^ 32 : Nat) : Int)) = _
  by_cases c : uN x < 2147483648
  · rw [if_pos c, if_pos (by omega)]
  · rw [if_neg c, if_neg (by omega)]; rfl
theorem u_and (x y : Int32) : uN (x &&& y) = uN x &&& uN y := by
  unfold uN; rw [Int32.toBitVec_and, BitVec.toNat_and]
theorem u_or (x y : Int32) : uN (x ||| y) = uN x ||| uN y := by
  unfold uN; rw [Int32.toBitVec_or, BitVec.toNat_or]
theorem u_shr (x s : Int32) {k : Nat} (hs : (s.toUInt32 &&& Int32.toUInt32 31).toBitVec.toNat % 32 = k) : uN ((x.toUInt32 >>> (s.toUInt32 &&& Int32.toUInt32 31)).toInt32) = uN x / 2 ^ k := by
  show (x.toUInt32 >>> (s.toUInt32 &&& Int32.toUInt32 31)).toBitVec.toNat = _
  rw [UInt32.toBitVec_shiftRight]
  show (x.toBitVec >>> ((s.toUInt32 &&& Int32.toUInt32 31).toBitVec % 32)).toNat = _
  rw [BitVec.ushiftRight_eq', show ((s.toUInt32 &&& Int32.toUInt32 31).toBitVec % 32).toNat = k from by rw [BitVec.toNat_umod]; exact hs, BitVec.toNat_ushiftRight, Nat.shiftRight_eq_div_pow]
  rfl
theorem u_and7 (x : Int32) : x &&& 7 = nI (uN x % 8) := by
  rw [u_of (x &&& 7), u_and]
  exact congrArg nI (Nat.and_two_pow_sub_one_eq_mod (uN x) 3)
theorem u_and12 (x : Int32) : x &&& 4095 = nI (uN x % 4096) := by
  rw [u_of (x &&& 4095), u_and]
  exact congrArg nI (Nat.and_two_pow_sub_one_eq_mod (uN x) 12)
theorem u_and10 (x : Int32) : x &&& 1023 = nI (uN x % 1024) := by
  rw [u_of (x &&& 1023), u_and]
  exact congrArg nI (Nat.and_two_pow_sub_one_eq_mod (uN x) 10)
theorem u_and28 (x : Int32) : x &&& 268435455 = nI (uN x % 268435456) := by
  rw [u_of (x &&& 268435455), u_and]
  exact congrArg nI (Nat.and_two_pow_sub_one_eq_mod (uN x) 28)
theorem u_and8 (x : Int32) : x &&& 255 = nI (uN x % 256) := by
  rw [u_of (x &&& 255), u_and]
  exact congrArg nI (Nat.and_two_pow_sub_one_eq_mod (uN x) 8)
/-- the tag -/
theorem u_tag (x : Int32) : x &&& (-268435456) = nI (uN x / 268435456 * 268435456) := by
  rw [u_of (x &&& (-268435456)), u_and]
  congr 1
  show uN x &&& 4026531840 = _
  have h := u_lt x
  have e : uN x &&& 4026531840 = (uN x / 2 ^ 28 &&& 15) * 2 ^ 28 := by
    apply Nat.eq_of_testBit_eq
    intro i
    rw [Nat.testBit_and, Nat.testBit_mul_two_pow]
    have e2 : Nat.testBit 4026531840 i = (decide (28 ≤ i) && Nat.testBit 15 (i - 28)) := by
      rw [show (4026531840 : Nat) = 15 * 2 ^ 28 from rfl, Nat.testBit_mul_two_pow]
    rw [e2]
    by_cases c : 28 ≤ i
    · rw [decide_eq_true c, Bool.true_and, Bool.true_and, Nat.testBit_and, Nat.testBit_div_two_pow]
      congr 2
      omega
    · rw [decide_eq_false c, Bool.false_and, Bool.and_false, Bool.false_and]
  rw [e, show (15 : Nat) = 2 ^ 4 - 1 from rfl, Nat.and_two_pow_sub_one_eq_mod, Nat.mod_eq_of_lt (by omega)]
/-- below nought or not -/
theorem u_neg (x : Int32) : x < 0 ↔ 2147483648 ≤ uN x := by
  rw [i_lt, u_int]
  show (if uN x < 2147483648 then (uN x : Int) else (uN x : Int) - 4294967296) < 0 ↔ _
  have := u_lt x
  split <;> omega
theorem u_nn (x : Int32) : 0 ≤ x ↔ uN x < 2147483648 := by
  rw [i_le, u_int x]
  show 0 ≤ (if uN x < 2147483648 then (uN x : Int) else (uN x : Int) - 4294967296) ↔ _
  have := u_lt x
  split <;> omega
theorem u_cl {x : Int32} (h : uN x < 2147483648) : x.toNatClampNeg = uN x := by
  have e := u_of x
  rw [e, n_cl h, u_n (u_lt x)]
theorem u_in {x : Int32} {n : Nat} (h : uN x < n) (hn : n ≤ 2147483648) : ¬ (x < 0 ∨ n ≤ x.toNatClampNeg) := by
  rw [u_neg, u_cl (by omega)]
  omega
theorem u_eq {x y : Int32} : x = y ↔ uN x = uN y := by
  constructor
  · intro e; rw [e]
  · intro e; rw [u_of x, u_of y, e]
theorem u_le {x y : Int32} (hx : uN x < 2147483648) (hy : uN y < 2147483648) : x ≤ y ↔ uN x ≤ uN y := by
  rw [i_le, u_int, u_int, if_pos hx, if_pos hy]; omega
theorem u_ltn {x y : Int32} (hx : uN x < 2147483648) (hy : uN y < 2147483648) : x < y ↔ uN x < uN y := by
  rw [i_lt, u_int, u_int, if_pos hx, if_pos hy]; omega
theorem u_add {x y : Int32} (h : uN x + uN y < 4294967296) : uN (x + y) = uN x + uN y := by
  show (x.toBitVec + y.toBitVec).toNat = _
  rw [BitVec.toNat_add]
  exact Nat.mod_eq_of_lt h
theorem u_sub {x y : Int32} (h : uN y ≤ uN x) : uN (x - y) = uN x - uN y := by
  show (x.toBitVec - y.toBitVec).toNat = _
  rw [BitVec.toNat_sub]
  have h1 := u_lt x
  have h2 := u_lt y
  show (2 ^ 32 - uN y + uN x) % 2 ^ 32 = _
  omega
theorem u_sar2 {x : Int32} (h : uN x < 2147483648) : uN (x >>> ((2 : Int32) &&& 31)) = uN x / 4 := by
  show (x.toBitVec.sshiftRight' (((2 : Int32) &&& 31).toBitVec.smod 32)).toNat = _
  rw [BitVec.sshiftRight_eq', show (((2 : Int32) &&& 31).toBitVec.smod 32).toNat = 2 from by decide, BitVec.sshiftRight_eq_of_msb_false (by rw [BitVec.msb_eq_decide]; exact decide_eq_false (by show ¬ 2 ^ 31 ≤ uN x; omega)), BitVec.toNat_ushiftRight, Nat.shiftRight_eq_div_pow]
  rfl
theorem u_shl {x : Int32} (s : Int32) {k : Nat} (hs : (s.toBitVec.smod 32).toNat = k) (h : uN x * 2 ^ k < 4294967296) : uN (x <<< s) = uN x * 2 ^ k := by
  show (x.toBitVec <<< (s.toBitVec.smod 32)).toNat = _
  rw [BitVec.shiftLeft_eq', hs, BitVec.toNat_shiftLeft, Nat.shiftLeft_eq]
  exact Nat.mod_eq_of_lt h
/-- bits that lie apart -/
theorem u_orA {x y : Int32} {k a : Nat} (h : uN x < 2 ^ k) (e : uN y = a * 2 ^ k) : uN (x ||| y) = uN x + uN y := by
  rw [u_or, e, Nat.or_comm, ← Nat.shiftLeft_eq, ← Nat.shiftLeft_add_eq_or_of_lt h, Nat.add_comm]
/-- of a header: kind, how many, ints behind it, size, height -/
def hdK (H : Nat) : Nat := H % 8
def hdL (H : Nat) : Nat := H / 16 % 4096
def hdW (H : Nat) : Nat := if H % 8 = 4 then (hdL H + 3) / 4 else hdL H
def hdS (H : Nat) : Nat := H / 65536 % 1024
def hdT (H : Nat) : Nat := H / 67108864
theorem e_len (H : Int32) : (((H.toUInt32 >>> ((4 : Int32).toUInt32 &&& Int32.toUInt32 31)).toInt32) &&& 4095) = nI (hdL (uN H)) := by
  rw [u_and12, u_shr H 4 (k := 4) (by decide)]; rfl
theorem e_siz (H : Int32) : (((H.toUInt32 >>> ((16 : Int32).toUInt32 &&& Int32.toUInt32 31)).toInt32) &&& 1023) = nI (hdS (uN H)) := by
  rw [u_and10, u_shr H 16 (k := 16) (by decide)]; rfl
theorem e_hgt (H : Int32) : ((H.toUInt32 >>> ((26 : Int32).toUInt32 &&& Int32.toUInt32 31)).toInt32) = nI (hdT (uN H)) := by
  rw [u_of ((H.toUInt32 >>> ((26 : Int32).toUInt32 &&& Int32.toUInt32 31)).toInt32), u_shr H 26 (k := 26) (by decide)]; rfl
theorem e_knd (H : Int32) : H &&& 7 = nI (hdK (uN H)) := u_and7 H
theorem e_low (H : Int32) : H &&& 65535 = nI (uN H % 65536) := by
  rw [u_of (H &&& 65535), u_and]
  exact congrArg nI (Nat.and_two_pow_sub_one_eq_mod (uN H) 16)
theorem e_imm (H : Int32) : (((H.toUInt32 >>> ((28 : Int32).toUInt32 &&& Int32.toUInt32 31)).toInt32) &&& 7) = nI (uN H / 268435456 % 8) := by
  rw [u_and7, u_shr H 28 (k := 28) (by decide)]
/-- the flag -/
theorem e_flg (H : Int32) : H &&& 8 = 0 ↔ uN H / 8 % 2 = 0 := by
  rw [u_eq, u_and]
  show uN H &&& 8 = 0 ↔ _
  have e : uN H &&& 8 = (uN H / 2 ^ 3 &&& 1) * 2 ^ 3 := by
    apply Nat.eq_of_testBit_eq
    intro i
    rw [Nat.testBit_and, Nat.testBit_mul_two_pow]
    have e2 : Nat.testBit 8 i = (decide (3 ≤ i) && Nat.testBit 1 (i - 3)) := by
      rw [show (8 : Nat) = 1 * 2 ^ 3 from rfl, Nat.testBit_mul_two_pow]
    rw [e2]
    by_cases c : 3 ≤ i
    · rw [decide_eq_true c, Bool.true_and, Bool.true_and, Nat.testBit_and, Nat.testBit_div_two_pow]
      congr 2
      omega
    · rw [decide_eq_false c, Bool.false_and, Bool.and_false, Bool.false_and]
  rw [e, show (1 : Nat) = 2 ^ 1 - 1 from rfl, Nat.and_two_pow_sub_one_eq_mod]
  show uN H / 8 % 2 * 8 = 0 ↔ _
  omega
/-- a value (or an error): held by its handle, or a good cell -/
def Gv (g : Nat → Prop) (x : Int32) : Prop := (2147483648 ≤ uN x ∧ (uN x < 3489660928 ∨ (4026531840 ≤ uN x ∧ ¬ uN x % 16 = 0))) ∨ (uN x < 160000 ∧ g (uN x))
/-- an error -/
def Rw (x : Int32) : Prop := 4026531840 ≤ uN x ∧ ¬ uN x % 16 = 0
/-- a number of the machine's own, or an error -/
def Rr (x : Int32) : Prop := 4026531840 ≤ uN x
/-- a value, or such a number -/
def Gw (g : Nat → Prop) (x : Int32) : Prop := Gv g x ∨ Rr x
/-- how high a value is -/
def hgt (M : Nat → Int32) (x : Int32) : Nat := if uN x < 2147483648 then hdT (uN (M (uN x))) else 0
/-- a good cell -/
def CGo (M : Nat → Int32) (g : Nat → Prop) (t p : Nat) : Prop := uN (M p) < 2147483648 ∧ p + hdW (uN (M p)) < t ∧ (hdK (uN (M p)) = 2 ∨ hdK (uN (M p)) = 4 ∨ hdK (uN (M p)) = 5 ∨ hdK (uN (M p)) = 6) ∧ (hdT (uN (M p)) ≤ 30 ∧ 1 ≤ hdS (uN (M p))) ∧ (hdK (uN (M p)) = 2 → 1 ≤ hdL (uN (M p)) ∧ hdL (uN (M p)) ≤ 32) ∧ (5 ≤ hdK (uN (M p)) → hdL (uN (M p)) ≤ 999 ∧ 1 ≤ hdT (uN (M p)) ∧ ∀ i, i < hdL (uN (M p)) → Gv g (M (p + 1 + i)) ∧ hgt M (M (p + 1 + i)) < hdT (uN (M p))) ∧ (hdK (uN (M p)) = 6 → uN (M p) / 8 % 2 = 1 → ∀ i, i < hdL (uN (M p)) → uN (M (p + 1 + i)) < 2147483648 ∧ uN (M (uN (M (p + 1 + i)))) % 65536 = 37)
/-- cells one behind the other -/
def TlC (M : Nat → Int32) (t : Nat) : Nat → List Nat → Prop
  | a, [] => a = t
  | a, p :: l => p = a ∧ uN (M p) < 2147483648 ∧ p + 1 + hdW (uN (M p)) ≤ t ∧ TlC M t (p + 1 + hdW (uN (M p))) l
/-- the heap of the house -/
def HQ (g : Nat → Prop) (l : List Nat) (t : Nat) (σ : CS) : Prop := σ.1 1 = nI t ∧ (3 ≤ t ∧ t ≤ sN σ 3) ∧ ((sN σ 3 = 16384 ∧ sN σ 1 = 512 ∧ sN σ 2 = 512) ∨ (sN σ 3 = 160000 ∧ sN σ 1 = 5000 ∧ sN σ 2 = 5000)) ∧ (g 0 ∧ g 1 ∧ g 2) ∧ (σ.2.2.1 3 0 = 65540 ∧ σ.2.2.1 3 1 = 67174405 ∧ σ.2.2.1 3 2 = 67174414) ∧ TlC (σ.2.2.1 3) t 3 l ∧ ∀ p, g p → (p < 3 ∨ p ∈ l) ∧ CGo (σ.2.2.1 3) g t p
section CRD
variable {g : Nat → Prop} {l : List Nat} {t : Nat} {σ : CS} {L : LV} {x : Int32}
theorem HQ_n (h : HQ g l t σ) : sN σ 3 ≤ 160000 := by
  rcases h.2.2.1 with z | z <;> omega
theorem HQ_c (h : HQ g l t σ) {p : Nat} (hp : g p) : p < t ∧ t ≤ sN σ 3 ∧ sN σ 3 ≤ 160000 ∧ p + hdW (uN (σ.2.2.1 3 p)) < t ∧ CGo (σ.2.2.1 3) g t p := by
  have a := (h.2.2.2.2.2.2 p hp).2
  have b := a.2.1
  exact ⟨by omega, h.2.1.2, HQ_n h, b, a⟩
/-- a value below nought or not -/
theorem Gv_i (h : Gv g x) : (x < 0 ∧ 2147483648 ≤ uN x ∧ (uN x < 3489660928 ∨ 4026531840 ≤ uN x)) ∨ (¬ x < 0 ∧ uN x < 160000 ∧ g (uN x)) := by
  rcases h with ⟨a, b⟩ | ⟨a, b⟩
  · exact Or.inl ⟨(u_neg x).2 a, a, b.imp id And.left⟩
  · exact Or.inr ⟨by rw [u_neg]; omega, a, b⟩
theorem Gv_c (h : Gv g x) (c : uN x < 2147483648) : uN x < 160000 ∧ g (uN x) := by
  rcases h with ⟨a, b⟩ | ⟨a, b⟩
  · omega
  · exact ⟨a, b⟩
theorem Gw_c (h : Gw g x) (c : uN x < 2147483648) : uN x < 160000 ∧ g (uN x) := by
  rcases h with h | h
  · exact Gv_c h c
  · have z : 4026531840 ≤ uN x := h
    omega
theorem Gw_sg {g' : Nat → Prop} (h : Gw g x) (hs : ∀ p, g p → g' p) : Gw g' x := h.imp (fun h => h.imp id (fun ⟨a, b⟩ => ⟨a, hs _ b⟩)) id
/-- an error among values -/
theorem er_of (h : Gv g x ∨ Rw x) (e : Rr x) : Rw x := by
  rcases h with h | h
  · have z : 4026531840 ≤ uN x := e
    rcases h with w | w
    · exact ⟨z, by omega⟩
    · omega
  · exact h
theorem Gv_sg {g' : Nat → Prop} (h : Gv g x) (hs : ∀ p, g p → g' p) : Gv g' x := h.imp id (fun ⟨a, b⟩ => ⟨a, hs _ b⟩)
/-- a good cell is in the row -/
theorem in_g (h : HQ g l t σ) (hv : Gv g x) (c : uN x < 2147483648) : ¬ (x < 0 ∨ sN σ 3 ≤ x.toNatClampNeg) := by
  have a := Gv_c hv c
  have b := HQ_c h a.2
  exact u_in (by omega) (by omega)
/-- and what is in it -/
theorem in_gi {y : Int32} (h : HQ g l t σ) (hv : Gv g x) (c : uN x < 2147483648) (hy : uN y ≤ hdW (uN (σ.2.2.1 3 (uN x)))) : ¬ (x + y < 0 ∨ sN σ 3 ≤ (x + y).toNatClampNeg) ∧ (x + y).toNatClampNeg = uN x + uN y := by
  have a := Gv_c hv c
  have b := HQ_c h a.2
  have e : uN (x + y) = uN x + uN y := u_add (by omega)
  exact ⟨u_in (by omega) (by omega), by rw [u_cl (by omega), e]⟩
/-- the kind of a value -/
def kdC (M : Nat → Int32) (x : Int32) : Nat := if uN x < 2147483648 then hdK (uN (M (uN x))) else uN x / 268435456 % 8
theorem kdC_7 (h : HQ g l t σ) (hx : Gv g x) (k : kdC (σ.2.2.1 3) x = 7) : 2147483648 ≤ uN x := by
  rcases Nat.lt_or_ge (uN x) 2147483648 with z | z
  · have q := (HQ_c h (Gv_c hx z).2).2.2.2.2.2.2.1
    unfold kdC at k
    rw [if_pos z] at k
    omega
  · exact z
/-- a row's kind by its handle is that of a cell -/
theorem kdC_5 (hx : Gv g x) {M : Nat → Int32} (k : 5 ≤ kdC M x) (k7 : ¬ kdC M x = 7) : uN x < 2147483648 := by
  rcases Nat.lt_or_ge (uN x) 2147483648 with z | z
  · exact z
  · unfold kdC at k k7
    rw [if_neg (by omega)] at k k7
    have := u_lt x
    rcases hx with w | w <;> omega
/-- how many -/
def lnC (M : Nat → Int32) (x : Int32) : Nat := if uN x < 2147483648 then hdL (uN (M (uN x))) else if uN x / 268435456 = 12 then 1 else 0
theorem lnC_lt (M : Nat → Int32) (x : Int32) : lnC M x < 4096 := by
  unfold lnC hdL
  split
  · omega
  · split <;> omega
/-- a member -/
def mbC (M : Nat → Int32) (x y : Int32) : Int32 := if uN x < 2147483648 ∧ uN y < lnC M x then M (uN x + 1 + uN y) else -2147483648
theorem Gv_om (g : Nat → Prop) : Gv g (-2147483648) := Or.inl ⟨by decide, by decide⟩
theorem mbC_g {y : Int32} (h : HQ g l t σ) (hv : Gv g x) (hk : uN x < 2147483648 → 5 ≤ kdC (σ.2.2.1 3) x) : Gv g (mbC (σ.2.2.1 3) x y) := by
  unfold mbC
  split
  · rename_i c
    have a := Gv_c hv c.1
    have b := HQ_c h a.2
    have k := hk c.1
    unfold kdC at k
    rw [if_pos c.1] at k
    have d := c.2
    unfold lnC at d
    rw [if_pos c.1] at d
    exact ((b.2.2.2.2.2.2.2.2.2.1 k).2.2 _ d).1
  · exact Gv_om g
theorem c_kind (h : HQ g l t σ) (hv : Gv g (L.1 1)) : Tm (fun k => y_X1_kind k 0 L σ) (fun r => r = (nI (kdC (σ.2.2.1 3) (L.1 1)), σ)) := by
  unfold kdC
  refine Tm_suc (fun k => by rw [y_X1_kind]) ?_
  refine Tm_ite (fun c => ?_) (fun c => ?_)
  · rw [u_nn] at c
    rw [if_pos c]
    refine Tm_suc (fun k => by rw [y_X1_kind]) ?_
    refine Tm_chk (in_g h hv c) ?_
    refine Tm_suc (fun k => by rw [y_X1_kind]) ?_
    refine Tm_some (Prod.ext ?_ rfl)
    show σ.2.2.1 3 (L.1 1).toNatClampNeg &&& 7 = _
    rw [e_knd, u_cl c]
  · rw [u_nn] at c
    rw [if_neg c]
    refine Tm_suc (fun k => by rw [y_X1_kind]) ?_
    exact Tm_some (Prod.ext (e_imm (L.1 1)) rfl)
end CRD
