/-! The class: bits, and how many. -/
section CSK
variable {g g' g2 : Nat → Prop} {l l' l2 : List Nat} {t t' t2 : Nat} {σ σ' σ2 : CS} {L : LV} {x y i : Int32} {M M' : Nat → Int32}
/-- bits of a number below a place -/
def pcn (x : Nat) : Nat → Nat
  | 0 => 0
  | s + 1 => pcn x s + x / 2 ^ s % 2
theorem pcn_add (x a : Nat) : ∀ b, pcn x (a + b) = pcn x a + pcn (x / 2 ^ a) b
  | 0 => rfl
  | b + 1 => by
    show pcn x (a + b) + x / 2 ^ (a + b) % 2 = pcn x a + (pcn (x / 2 ^ a) b + x / 2 ^ a / 2 ^ b % 2)
    rw [pcn_add x a b, Nat.pow_add, Nat.div_div_eq_div_mul]
    omega
theorem pcn_mod (x n : Nat) : ∀ s, s ≤ n → pcn (x % 2 ^ n) s = pcn x s
  | 0, _ => rfl
  | s + 1, h => by
    show pcn (x % 2 ^ n) s + x % 2 ^ n / 2 ^ s % 2 = pcn x s + x / 2 ^ s % 2
    rw [pcn_mod x n s (by omega)]
    have e : x % 2 ^ n / 2 ^ s % 2 = x / 2 ^ s % 2 := by
      have q : 2 ^ n = 2 ^ s * 2 ^ (n - s) := by rw [← Nat.pow_add]; congr 1; omega
      rw [q, Nat.mod_mul_right_div_self, show n - s = (n - s - 1) + 1 from by omega, Nat.pow_succ, Nat.mul_comm (2 ^ (n - s - 1)) 2]
      exact Nat.mod_mul_right_mod _ _ _
    rw [e]
theorem pcn_le (x : Nat) : ∀ s, pcn x s ≤ s
  | 0 => Nat.le_refl _
  | s + 1 => by
    have := pcn_le x s
    show pcn x s + x / 2 ^ s % 2 ≤ s + 1
    omega
theorem pcn_z : ∀ (s x : Nat), x < 2 ^ s → ∀ m, pcn x (s + m) = pcn x s
  | s, x, h, 0 => rfl
  | s, x, h, m + 1 => by
    show pcn x (s + m) + x / 2 ^ (s + m) % 2 = pcn x s
    rw [pcn_z s x h m, Nat.div_eq_of_lt (Nat.lt_of_lt_of_le h (Nat.pow_le_pow_right (by decide) (by omega)))]
    rfl
/-- four bytes -/
def v4 (a b c d : Nat) : Nat := a + 256 * b + 65536 * c + 16777216 * d
theorem and8 {a r m s : Nat} (ha : a < 256) (hm : m < 256) : (a + 256 * r) &&& (m + 256 * s) = (a &&& m) + 256 * (r &&& s) := by
  have e1 : ((a + 256 * r) &&& (m + 256 * s)) % 2 ^ 8 = a &&& m := by
    rw [Nat.and_mod_two_pow]
    rw [show (a + 256 * r) % 2 ^ 8 = a from by omega, show (m + 256 * s) % 2 ^ 8 = m from by omega]
  have e2 : ((a + 256 * r) &&& (m + 256 * s)) / 2 ^ 8 = r &&& s := by
    rw [Nat.and_div_two_pow]
    rw [show (a + 256 * r) / 2 ^ 8 = r from by omega, show (m + 256 * s) / 2 ^ 8 = s from by omega]
  have e3 := Nat.div_add_mod ((a + 256 * r) &&& (m + 256 * s)) (2 ^ 8)
  rw [e1, e2] at e3
  rw [← e3]
  show 256 * (r &&& s) + (a &&& m) = _
  omega
theorem v4_and {a b c d m : Nat} (ha : a < 256) (hb : b < 256) (hc : c < 256) (hm : m < 256) : v4 a b c d &&& v4 m m m m = v4 (a &&& m) (b &&& m) (c &&& m) (d &&& m) := by
  have e : ∀ p q r s, v4 p q r s = p + 256 * (q + 256 * (r + 256 * s)) := by
    intro p q r s
    unfold v4
    omega
  rw [e, e, e, and8 ha hm, and8 hb hm, and8 hc hm]
theorem bc_1 : ∀ b, b < 256 → ∀ e, e < 2 → (b / 2 + 128 * e) &&& 85 = (b / 2) &&& 85 := by decide +kernel
theorem bc_2 : ∀ b, b < 256 → ∀ e, e < 4 → (b / 4 + 64 * e) &&& 51 = (b / 4) &&& 51 := by decide +kernel
/-- a byte's ways -/
def bt1 (b : Nat) : Nat := b - ((b / 2) &&& 85)
def bt2 (b : Nat) : Nat := (bt1 b &&& 51) + ((bt1 b / 4) &&& 51)
theorem bc_3 : ∀ b, b < 256 → (b / 2) &&& 85 ≤ b ∧ bt2 b % 16 ≤ 4 ∧ bt2 b / 16 ≤ 4 ∧ bt2 b % 16 + bt2 b / 16 = pcn b 8 := by decide +kernel
def bcA (x : Int32) : Int32 := x - (((x.toUInt32 >>> ((1 : Int32).toUInt32 &&& Int32.toUInt32 31)).toInt32) &&& 1431655765)
def bcB (x : Int32) : Int32 := (x &&& 858993459) + (((x.toUInt32 >>> ((2 : Int32).toUInt32 &&& Int32.toUInt32 31)).toInt32) &&& 858993459)
def bcC (x : Int32) : Int32 := (x + ((x.toUInt32 >>> ((4 : Int32).toUInt32 &&& Int32.toUInt32 31)).toInt32)) &&& 252645135
def bcD (x : Int32) : Int32 := x + ((x.toUInt32 >>> ((8 : Int32).toUInt32 &&& Int32.toUInt32 31)).toInt32)
def bcE (x : Int32) : Int32 := (x + ((x.toUInt32 >>> ((16 : Int32).toUInt32 &&& Int32.toUInt32 31)).toInt32)) &&& 63
theorem bcA_u {a b c d : Nat} (ha : a < 256) (hb : b < 256) (hc : c < 256) (hd : d < 256) (e : uN x = v4 a b c d) : uN (bcA x) = v4 (bt1 a) (bt1 b) (bt1 c) (bt1 d) := by
  have s : uN (((x.toUInt32 >>> ((1 : Int32).toUInt32 &&& Int32.toUInt32 31)).toInt32) &&& 1431655765) = v4 ((a / 2) &&& 85) ((b / 2) &&& 85) ((c / 2) &&& 85) ((d / 2) &&& 85) := by
    rw [u_and, u_shr x 1 (k := 1) (by decide), e]
    rw [show v4 a b c d / 2 ^ 1 = v4 (a / 2 + 128 * (b % 2)) (b / 2 + 128 * (c % 2)) (c / 2 + 128 * (d % 2)) (d / 2 + 128 * 0) from by unfold v4; omega]
    rw [show uN 1431655765 = v4 85 85 85 85 from rfl, v4_and (by omega) (by omega) (by omega) (by decide), bc_1 a ha _ (by omega), bc_1 b hb _ (by omega), bc_1 c hc _ (by omega), bc_1 d hd 0 (by decide)]
  have qa := (bc_3 a ha).1
  have qb := (bc_3 b hb).1
  have qc := (bc_3 c hc).1
  have qd := (bc_3 d hd).1
  unfold bcA
  rw [u_sub (by rw [s, e]; unfold v4; omega), s, e]
  unfold v4 bt1
  omega
theorem bt1_lt {b : Nat} (h : b < 256) : bt1 b < 256 := by unfold bt1; omega
theorem bcB_u {a b c d : Nat} (ha : a < 256) (hb : b < 256) (hc : c < 256) (hd : d < 256) (e : uN x = v4 (bt1 a) (bt1 b) (bt1 c) (bt1 d)) : uN (bcB x) = v4 (bt2 a) (bt2 b) (bt2 c) (bt2 d) := by
  have la := bt1_lt ha
  have lb := bt1_lt hb
  have lc := bt1_lt hc
  have ld := bt1_lt hd
  have s : uN (((x.toUInt32 >>> ((2 : Int32).toUInt32 &&& Int32.toUInt32 31)).toInt32) &&& 858993459) = v4 ((bt1 a / 4) &&& 51) ((bt1 b / 4) &&& 51) ((bt1 c / 4) &&& 51) ((bt1 d / 4) &&& 51) := by
    rw [u_and, u_shr x 2 (k := 2) (by decide), e]
    rw [show v4 (bt1 a) (bt1 b) (bt1 c) (bt1 d) / 2 ^ 2 = v4 (bt1 a / 4 + 64 * (bt1 b % 4)) (bt1 b / 4 + 64 * (bt1 c % 4)) (bt1 c / 4 + 64 * (bt1 d % 4)) (bt1 d / 4 + 64 * 0) from by unfold v4; omega]
    rw [show uN 858993459 = v4 51 51 51 51 from rfl, v4_and (by omega) (by omega) (by omega) (by decide), bc_2 _ la _ (by omega), bc_2 _ lb _ (by omega), bc_2 _ lc _ (by omega), bc_2 _ ld 0 (by decide)]
  have s2 : uN (x &&& 858993459) = v4 (bt1 a &&& 51) (bt1 b &&& 51) (bt1 c &&& 51) (bt1 d &&& 51) := by
    rw [u_and, e, show uN 858993459 = v4 51 51 51 51 from rfl, v4_and la lb lc (by decide)]
  have qa := bc_3 a ha
  have qb := bc_3 b hb
  have qc := bc_3 c hc
  have qd := bc_3 d hd
  unfold bt2 at *
  unfold bcB
  rw [u_add (by rw [s, s2]; unfold v4; omega), s, s2]
  unfold v4
  omega
theorem bcC_u {a b c d : Nat} (ha : a % 16 ≤ 4 ∧ a / 16 ≤ 4) (hb : b % 16 ≤ 4 ∧ b / 16 ≤ 4) (hc : c % 16 ≤ 4 ∧ c / 16 ≤ 4) (hd : d % 16 ≤ 4 ∧ d / 16 ≤ 4) (e : uN x = v4 a b c d) : uN (bcC x) = v4 (a % 16 + a / 16) (b % 16 + b / 16) (c % 16 + c / 16) (d % 16 + d / 16) := by
  have s : uN (((x.toUInt32 >>> ((4 : Int32).toUInt32 &&& Int32.toUInt32 31)).toInt32)) = v4 a b c d / 16 := by
    rw [u_shr x 4 (k := 4) (by decide), e]
  have s2 : uN (x + ((x.toUInt32 >>> ((4 : Int32).toUInt32 &&& Int32.toUInt32 31)).toInt32)) = v4 (a + a / 16 + 16 * (b % 16)) (b + b / 16 + 16 * (c % 16)) (c + c / 16 + 16 * (d % 16)) (d + d / 16) := by
    rw [u_add (by rw [s, e]; unfold v4; omega), s, e]
    unfold v4
    omega
  have m : ∀ z : Nat, z &&& 15 = z % 16 := fun z => Nat.and_two_pow_sub_one_eq_mod z 4
  unfold bcC
  rw [u_and, s2, show uN 252645135 = v4 15 15 15 15 from rfl, v4_and (by omega) (by omega) (by omega) (by decide), m, m, m, m]
  rw [show (a + a / 16 + 16 * (b % 16)) % 16 = a % 16 + a / 16 from by omega, show (b + b / 16 + 16 * (c % 16)) % 16 = b % 16 + b / 16 from by omega, show (c + c / 16 + 16 * (d % 16)) % 16 = c % 16 + c / 16 from by omega, show (d + d / 16) % 16 = d % 16 + d / 16 from by omega]
theorem bcE_u {a b c d : Nat} (ha : a ≤ 8) (hb : b ≤ 8) (hc : c ≤ 8) (hd : d ≤ 8) (e : uN x = v4 a b c d) : uN (bcE (bcD x)) = a + b + c + d := by
  have s : uN (((x.toUInt32 >>> ((8 : Int32).toUInt32 &&& Int32.toUInt32 31)).toInt32)) = v4 a b c d / 256 := by
    rw [u_shr x 8 (k := 8) (by decide), e]
  have s2 : uN (bcD x) = v4 (a + b) (b + c) (c + d) d := by
    unfold bcD
    rw [u_add (by rw [s, e]; unfold v4; omega), s, e]
    unfold v4
    omega
  generalize bcD x = y at *
  have s3 : uN (((y.toUInt32 >>> ((16 : Int32).toUInt32 &&& Int32.toUInt32 31)).toInt32)) = v4 (a + b) (b + c) (c + d) d / 65536 := by
    rw [u_shr y 16 (k := 16) (by decide), s2]
  have s4 : uN (y + ((y.toUInt32 >>> ((16 : Int32).toUInt32 &&& Int32.toUInt32 31)).toInt32)) = v4 (a + b + c + d) (b + c + d) (c + d) d := by
    rw [u_add (by rw [s3, s2]; unfold v4; omega), s3, s2]
    unfold v4
    omega
  unfold bcE
  rw [u_and, s4, show uN 63 = 2 ^ 6 - 1 from rfl, Nat.and_two_pow_sub_one_eq_mod]
  unfold v4
  omega
theorem bc_all (x : Int32) : bcE (bcD (bcC (bcB (bcA x)))) = nI (pcn (uN x) 32) := by
  have hx := u_lt x
  have e : uN x = v4 (uN x % 256) (uN x / 256 % 256) (uN x / 65536 % 256) (uN x / 16777216 % 256) := by unfold v4; omega
  generalize hA : uN x % 256 = a at e
  generalize hB : uN x / 256 % 256 = b at e
  generalize hC : uN x / 65536 % 256 = c at e
  generalize hD : uN x / 16777216 % 256 = d at e
  have la : a < 256 := by omega
  have lb : b < 256 := by omega
  have lc : c < 256 := by omega
  have ld : d < 256 := by omega
  have qa := (bc_3 a la).2
  have qb := (bc_3 b lb).2
  have qc := (bc_3 c lc).2
  have qd := (bc_3 d ld).2
  have r := bcE_u (x := bcC (bcB (bcA x))) (by omega) (by omega) (by omega) (by omega) (bcC_u ⟨qa.1, qa.2.1⟩ ⟨qb.1, qb.2.1⟩ ⟨qc.1, qc.2.1⟩ ⟨qd.1, qd.2.1⟩ (bcB_u la lb lc ld (bcA_u la lb lc ld e)))
  rw [qa.2.2, qb.2.2, qc.2.2, qd.2.2] at r
  have p : pcn (uN x) 32 = pcn a 8 + pcn b 8 + pcn c 8 + pcn d 8 := by
    have p1 := pcn_add (uN x) 8 24
    have p2 := pcn_add (uN x / 2 ^ 8) 8 16
    have p3 := pcn_add (uN x / 2 ^ 8 / 2 ^ 8) 8 8
    have z1 := pcn_mod (uN x) 8 8 (Nat.le_refl _)
    have z2 := pcn_mod (uN x / 2 ^ 8) 8 8 (Nat.le_refl _)
    have z3 := pcn_mod (uN x / 2 ^ 8 / 2 ^ 8) 8 8 (Nat.le_refl _)
    have z4 := pcn_mod (uN x / 2 ^ 8 / 2 ^ 8 / 2 ^ 8) 8 8 (Nat.le_refl _)
    rw [show uN x % 2 ^ 8 = a from hA] at z1
    rw [show uN x / 2 ^ 8 % 2 ^ 8 = b from hB] at z2
    rw [show uN x / 2 ^ 8 / 2 ^ 8 % 2 ^ 8 = c from by rw [← hC]; omega] at z3
    rw [show uN x / 2 ^ 8 / 2 ^ 8 / 2 ^ 8 % 2 ^ 8 = d from by rw [← hD]; omega] at z4
    show pcn (uN x) (8 + 24) = _
    rw [p1, show 24 = 8 + 16 from rfl, p2, show 16 = 8 + 8 from rfl, p3, ← z1, ← z2, ← z3, ← z4]
    omega
  rw [u_of (bcE (bcD (bcC (bcB (bcA x))))), r, p]
theorem c_bitCount : Tm (fun k => y_J6_bitCount_0f7a4 k 0 L σ) (fun r => r = (nI (pcn (uN (L.1 0)) 32), σ)) := by
  refine Tm_suc (fun k => by rw [y_J6_bitCount_0f7a4]) ?_
  refine Tm_some (Prod.ext ?_ rfl)
  exact bc_all (L.1 0)
/-- a bit of a row, and how many before a place -/
def bI (U : Nat → Int32) (p : Nat) : Nat := uN (U (p / 32)) / 2 ^ (p % 32) % 2
def ctB (U : Nat → Int32) : Nat → Nat
  | 0 => 0
  | p + 1 => ctB U p + bI U p
theorem ct_w (U : Nat → Int32) (i : Nat) : ∀ s, s ≤ 32 → ctB U (32 * i + s) = ctB U (32 * i) + pcn (uN (U i)) s
  | 0, _ => rfl
  | s + 1, h => by
    show ctB U (32 * i + s) + bI U (32 * i + s) = ctB U (32 * i) + (pcn (uN (U i)) s + uN (U i) / 2 ^ s % 2)
    rw [ct_w U i s (by omega)]
    unfold bI
    rw [show (32 * i + s) / 32 = i from by omega, show (32 * i + s) % 32 = s from by omega]
    omega
theorem ct_le (U : Nat → Int32) : ∀ p, ctB U p ≤ p
  | 0 => Nat.le_refl _
  | p + 1 => by
    have := ct_le U p
    show ctB U p + bI U p ≤ p + 1
    unfold bI
    omega
theorem ct_1 {U : Nat → Int32} {a : Nat} : ∀ n, (∀ j, j < n → bI U (a + j) = 1) → ctB U (a + n) = ctB U a + n
  | 0, _ => rfl
  | n + 1, h => by
    show ctB U (a + n) + bI U (a + n) = ctB U a + (n + 1)
    rw [ct_1 n (fun j hj => h j (by omega)), h n (by omega)]
    omega
theorem ct_0 {U : Nat → Int32} {a : Nat} : ∀ n, (∀ j, j < n → bI U (a + j) = 0) → ctB U (a + n) = ctB U a
  | 0, _ => rfl
  | n + 1, h => by
    show ctB U (a + n) + bI U (a + n) = ctB U a
    rw [ct_0 n (fun j hj => h j (by omega)), h n (by omega)]
    omega
theorem ct_mono (U : Nat → Int32) {a : Nat} : ∀ n, ctB U a ≤ ctB U (a + n)
  | 0 => Nat.le_refl _
  | n + 1 => by
    have := ct_mono U (a := a) n
    show ctB U a ≤ ctB U (a + n) + bI U (a + n)
    omega
end CSK
