/-! The tape of the class: feed, end. -/
theorem upd_upd {f : Nat → Int32} {k : Nat} {x y : Int32} : upd (upd f k x) k y = upd f k y := by
  funext j
  unfold upd
  by_cases h : j = k
  · rw [if_pos h, if_pos h]
  · rw [if_neg h, if_neg h, if_neg h]
theorem updG_updG {f : Nat → Nat → Int32} {k : Nat} {x y : Nat → Int32} : updG (updG f k x) k y = updG f k y := by
  funext j
  unfold updG
  by_cases h : j = k
  · rw [if_pos h, if_pos h]
  · rw [if_neg h, if_neg h, if_neg h]
theorem updN_updN {f : Nat → Nat} {k x y : Nat} : updN (updN f k x) k y = updN f k y := by
  funext j
  unfold updN
  by_cases h : j = k
  · rw [if_pos h, if_pos h]
  · rw [if_neg h, if_neg h, if_neg h]
theorem upd_self {f : Nat → Int32} {k : Nat} : upd f k (f k) = f := by
  funext j
  unfold upd
  by_cases h : j = k
  · rw [if_pos h, h]
  · rw [if_neg h]
theorem updG_self {f : Nat → Nat → Int32} {k : Nat} : updG f k (f k) = f := by
  funext j
  unfold updG
  by_cases h : j = k
  · rw [if_pos h, h]
  · rw [if_neg h]
theorem updN_self {f : Nat → Nat} {k : Nat} : updN f k (f k) = f := by
  funext j
  unfold updN
  by_cases h : j = k
  · rw [if_pos h, h]
  · rw [if_neg h]
theorem lI_same {L : LV} {i : Nat} {x : Int32} : (lI L i x).1 i = x := (upd_same : upd L.1 i x i = x)
theorem lI_other {L : LV} {i j : Nat} {x : Int32} (h : j ≠ i) : (lI L i x).1 j = L.1 j := (upd_other h : upd L.1 i x j = L.1 j)
/-- the state with another tape: length, bytes, room -/
def tC (σ : CS) (l : Int32) (row : Nat → Int32) (n : Nat) : CS := (upd σ.1 3701 l, σ.2.1, updG σ.2.2.1 38 row, σ.2.2.2.1, updN (sN σ) 38 n, σ.2.2.2.2.2)
theorem tC_self (σ : CS) : tC σ (σ.1 3701) (σ.2.2.1 38) (sN σ 38) = σ := by
  unfold tC
  rw [upd_self, updG_self, updN_self]
theorem tC_tC (σ : CS) {l l' : Int32} {r r' : Nat → Int32} {n n' : Nat} : tC (tC σ l r n) l' r' n' = tC σ l' r' n' := by
  show (upd (upd σ.1 3701 l) 3701 l', σ.2.1, updG (updG σ.2.2.1 38 r) 38 r', σ.2.2.2.1, updN (updN (sN σ) 38 n) 38 n', σ.2.2.2.2.2) = (upd σ.1 3701 l', σ.2.1, updG σ.2.2.1 38 r', σ.2.2.2.1, updN (sN σ) 38 n', σ.2.2.2.2.2)
  rw [upd_upd, updG_updG, updN_updN]
theorem tC_len {σ : CS} {l : Int32} {r : Nat → Int32} {n : Nat} : (tC σ l r n).1 3701 = l := (upd_same : upd σ.1 3701 l 3701 = l)
theorem tC_row {σ : CS} {l : Int32} {r : Nat → Int32} {n : Nat} : (tC σ l r n).2.2.1 38 = r := (updG_same : updG σ.2.2.1 38 r 38 = r)
theorem tC_n {σ : CS} {l : Int32} {r : Nat → Int32} {n : Nat} : sN (tC σ l r n) 38 = n := (if_pos rfl : updN (sN σ) 38 n 38 = n)
/-- what the rows of the tape may still cost: cells, slots -/
def tpC (n : Nat) : Nat := if n < 10242 then 2 else if n < 32770 then 1 else 0
def tpS (n : Nat) : Nat := if n < 10242 then 43012 else if n < 32770 then 32770 else 0
def tFit (row : Nat → Int32) (n : Nat) : Prop := ∀ i, i < n → fits .byte (.int (row i)) = true
/-- the bytes of a word, from the highest on, written behind the tape -/
def cByte (x : Int32) (s : Int32) : Int32 := vp_nar .byte ((x >>> (s &&& 31)).toInt8.toInt32)
theorem i_byte (y : Int8) : -128 ≤ y.toInt32.toInt ∧ y.toInt32.toInt ≤ 127 := by
  have h1 := Int8.le_toInt y
  have h2 := Int8.toInt_lt y
  rw [Int8.toInt_toInt32]
  omega
theorem fits_byte {v : Int32} (h1 : -128 ≤ v.toInt) (h2 : v.toInt ≤ 127) : fits .byte (.int v) = true := by
  show (decide ((-128 : Int32) ≤ v) && decide (v ≤ (127 : Int32))) = true
  rw [Bool.and_eq_true]
  exact ⟨decide_eq_true (i_le.mpr h1), decide_eq_true (i_le.mpr h2)⟩
theorem fits_byte' {v : Int32} (h : fits .byte (.int v) = true) : -128 ≤ v.toInt ∧ v.toInt ≤ 127 := by
  have h : (decide ((-128 : Int32) ≤ v) && decide (v ≤ (127 : Int32))) = true := h
  rw [Bool.and_eq_true] at h
  exact ⟨i_le.mp (of_decide_eq_true h.1), i_le.mp (of_decide_eq_true h.2)⟩
theorem cByte_fits (x s : Int32) : fits .byte (.int (cByte x s)) = true := fits_byte (i_byte _).1 (i_byte _).2
/-- widen: room for n bytes, the tape as it was -/
theorem s_lexWiden (L : LV) (σ : CS) (h0 : 0 ≤ (L.1 1).toInt) (h1 : (L.1 1).toInt ≤ 32770) (hn : sN σ 38 ≤ 32770) (hf : tFit (σ.2.2.1 38) (sN σ 38)) :
    Tm (fun k => f_X2_widen k 0 L σ) (fun r => r.1 = (0, 0) ∧ ∃ (row : Nat → Int32) (n : Nat), r.2.1 = tC σ (σ.1 3701) row n ∧ (∀ i, i < sN σ 38 → row i = σ.2.2.1 38 i) ∧ tFit row n ∧ sN σ 38 ≤ n ∧ n ≤ 32770 ∧ (L.1 1).toInt ≤ n ∧ r.2.2.1 + tpC n ≤ tpC (sN σ 38) ∧ r.2.2.2 + tpS n ≤ tpS (sN σ 38)) := by
  have k1 : (10242 : Int32).toInt = 10242 := rfl
  have k2 : (32770 : Int32).toInt = 32770 := rfl
  have same : sN σ 38 ≤ 32770 → (L.1 1).toInt ≤ sN σ 38 → (((0 : Nat), (0 : Int32)), σ, ((0 : Nat), (0 : Nat))).1 = (0, 0) ∧ ∃ (row : Nat → Int32) (n : Nat), (((0 : Nat), (0 : Int32)), σ, ((0 : Nat), (0 : Nat))).2.1 = tC σ (σ.1 3701) row n ∧ (∀ i, i < sN σ 38 → row i = σ.2.2.1 38 i) ∧ tFit row n ∧ sN σ 38 ≤ n ∧ n ≤ 32770 ∧ (L.1 1).toInt ≤ n ∧ 0 + tpC n ≤ tpC (sN σ 38) ∧ 0 + tpS n ≤ tpS (sN σ 38) :=
    fun a b => ⟨rfl, σ.2.2.1 38, sN σ 38, (tC_self σ).symm, fun _ _ => rfl, hf, Nat.le_refl _, a, b, by omega, by omega⟩
  -- the test and the copy
  have last : ∀ (M : LV) (full : Nat), full = 10242 ∨ full = 32770 → (M.1 100).toInt = full → M.1 101 = L.1 1 → (L.1 1).toInt ≤ full → Tm (fun k => f_X2_widen k 2 M σ) (fun r => r.1 = (0, 0) ∧ ∃ (row : Nat → Int32) (n : Nat), r.2.1 = tC σ (σ.1 3701) row n ∧ (∀ i, i < sN σ 38 → row i = σ.2.2.1 38 i) ∧ tFit row n ∧ sN σ 38 ≤ n ∧ n ≤ 32770 ∧ (L.1 1).toInt ≤ n ∧ r.2.2.1 + tpC n ≤ tpC (sN σ 38) ∧ r.2.2.2 + tpS n ≤ tpS (sN σ 38)) := by
    intro M full hfu h100 h101 hle
    have hcl : ((M.1 100).toNatClampNeg : Int) = full := by rw [i_clamp (by omega)]; exact h100
    have hcl : (M.1 100).toNatClampNeg = full := by omega
    refine Tm_suc (fun k => by rw [f_X2_widen]) ?_
    refine Tm_chk ⟨by rw [i_lt, i_c0]; omega, by omega, by omega⟩ ?_
    refine Tm_ite (fun c => ?_) (fun c => ?_)
    · refine Tm_chk hf ?_
      refine Tm_adR ?_
      refine Tm_suc (fun k => by rw [f_X2_widen]) ?_
      refine Tm_some ⟨rfl, (fun i => if i < sN σ 38 then σ.2.2.1 38 i else 0), full, ?_, fun i hi => if_pos hi, fun i hi => ?_, ?_, ?_, ?_, ?_, ?_⟩
      · rw [hcl]
        show (σ.1, σ.2.1, updG σ.2.2.1 38 (fun i => if i < sN σ 38 then σ.2.2.1 38 i else 0), σ.2.2.2.1, updN (sN σ) 38 full, σ.2.2.2.2.2) = _
        unfold tC
        rw [upd_self]
      · show fits .byte (.int (if i < sN σ 38 then σ.2.2.1 38 i else 0)) = true
        by_cases h : i < sN σ 38
        · rw [if_pos h]; exact hf i h
        · rw [if_neg h]; rfl
      · omega
      · omega
      · omega
      · show 1 + 0 + tpC full ≤ _
        unfold tpC
        have := c.2
        rcases hfu with rfl | rfl
        · rw [if_neg (by omega), if_pos (by omega), if_pos (by omega)]; omega
        · rw [if_neg (by omega), if_neg (by omega)]; (repeat' split) <;> omega
      · show (M.1 100).toNatClampNeg + 0 + tpS full ≤ _
        rw [hcl]
        unfold tpS
        have := c.2
        rcases hfu with rfl | rfl
        · rw [if_neg (by omega), if_pos (by omega), if_pos (by omega)]; omega
        · rw [if_neg (by omega), if_neg (by omega)]; (repeat' split) <;> omega
    · refine Tm_suc (fun k => by rw [f_X2_widen]) ?_
      refine Tm_some (same hn ?_)
      rw [h101, i_lt] at c
      have : (nI (sN σ 38)).toInt = sN σ 38 := i_ofNat (by omega)
      omega
  refine Tm_suc (fun k => by rw [f_X2_widen]) ?_
  refine Tm_ite (fun c => ?_) (fun c => ?_)
  · rw [i_lt, k1] at c
    refine Tm_suc (fun k => by rw [f_X2_widen]) ?_
    exact last _ 32770 (Or.inr rfl) (by rw [lI_other (by decide), lI_same]; rfl) (by rw [lI_same, lI_same]) (by omega)
  · rw [i_lt, k1] at c
    exact last _ 10242 (Or.inl rfl) (by rw [lI_other (by decide), lI_same]; rfl) (by rw [lI_same]) (by omega)
/-- append: four bytes, from the highest on -/
def cPut (row : Nat → Int32) (x : Int32) (l : Nat) : Nat → Nat → Int32
  | 0 => row
  | j + 1 => upd (cPut row x l j) (l + j) (cByte x (24 - 8 * nI j))
theorem cPut_fit {row : Nat → Int32} {x : Int32} {l n : Nat} (h : tFit row n) : ∀ j : Nat, tFit (cPut row x l j) n
  | 0 => h
  | j + 1 => fun i hi => by
    show fits .byte (.int (upd (cPut row x l j) (l + j) (cByte x (24 - 8 * nI j)) i)) = true
    by_cases e : i = l + j
    · rw [e, upd_same]; exact cByte_fits _ _
    · rw [upd_other e]; exact cPut_fit h j i hi
theorem append_loop (x : Int32) (σ : CS) (l : Int32) (row : Nat → Int32) (n : Nat) (h0 : 0 ≤ l.toInt) (h1 : l.toInt + 4 ≤ n) (hn : n ≤ 32770) : ∀ (m j : Nat) (L : LV), j + m = 4 → L.1 1 = x → L.1 2 = 24 - 8 * nI j → Tm (fun k => f_X2_append k 1 L (tC σ (l + nI j) (cPut row x l.toNatClampNeg j) n)) (fun r => r = ((0, 0), tC σ (l + 4) (cPut row x l.toNatClampNeg 4) n, (0, 0))) := by
  intro m
  induction m with
  | zero =>
    intro j L hj hx h2
    obtain rfl : j = 4 := by omega
    refine Tm_suc (fun k => by rw [f_X2_append]) ?_
    refine Tm_ite (fun c => ?_) (fun c => absurd (by rw [h2]; decide) c)
    refine Tm_suc (fun k => by rw [f_X2_append]) ?_
    exact Tm_some rfl
  | succ m ih =>
    intro j L hj hx h2
    have hj3 : j = 0 ∨ j = 1 ∨ j = 2 ∨ j = 3 := by omega
    have hji : (nI j).toInt = j := i_ofNat (by omega)
    have hlj : (l + nI j).toInt = l.toInt + j := by rw [i_add] <;> omega
    have hcl : (l + nI j).toNatClampNeg = l.toNatClampNeg + j := by
      have a := i_clamp (x := l + nI j) (by omega)
      have b := i_clamp h0
      omega
    refine Tm_suc (fun k => by rw [f_X2_append]) ?_
    refine Tm_ite (fun c => ?_) (fun c => ?_)
    · rw [h2] at c; rcases hj3 with rfl | rfl | rfl | rfl <;> exact absurd c (by decide)
    refine Tm_chk (by rw [tC_len, tC_n]; exact i_in (by omega) (by omega)) ?_
    have := ih (j + 1) (lI L 2 (L.1 2 - 8)) (by omega) (by rw [lI_other (by decide)]; exact hx) (by rw [lI_same, h2]; rcases hj3 with rfl | rfl | rfl | rfl <;> decide)
    have e : uI (uA (tC σ (l + nI j) (cPut row x l.toNatClampNeg j) n) 38 ((tC σ (l + nI j) (cPut row x l.toNatClampNeg j) n).1 3701).toNatClampNeg (vp_nar .byte ((L.1 1 >>> (L.1 2 &&& 31)).toInt8.toInt32))) 3701 ((uA (tC σ (l + nI j) (cPut row x l.toNatClampNeg j) n) 38 ((tC σ (l + nI j) (cPut row x l.toNatClampNeg j) n).1 3701).toNatClampNeg (vp_nar .byte ((L.1 1 >>> (L.1 2 &&& 31)).toInt8.toInt32))).1 3701 + 1) = tC σ (l + nI (j + 1)) (cPut row x l.toNatClampNeg (j + 1)) n := by
      rw [tC_len, hcl, hx, h2]
      show (upd (upd σ.1 3701 (l + nI j)) 3701 ((tC σ (l + nI j) (cPut row x l.toNatClampNeg j) n).1 3701 + 1), σ.2.1, updG (updG σ.2.2.1 38 (cPut row x l.toNatClampNeg j)) 38 (upd ((tC σ (l + nI j) (cPut row x l.toNatClampNeg j) n).2.2.1 38) (l.toNatClampNeg + j) (cByte x (24 - 8 * nI j))), σ.2.2.2.1, updN (sN σ) 38 n, σ.2.2.2.2.2) = (upd σ.1 3701 (l + nI (j + 1)), σ.2.1, updG σ.2.2.1 38 (upd (cPut row x l.toNatClampNeg j) (l.toNatClampNeg + j) (cByte x (24 - 8 * nI j))), σ.2.2.2.1, updN (sN σ) 38 n, σ.2.2.2.2.2)
      rw [upd_upd, updG_updG, tC_len, tC_row, nI_succ, Int32.add_assoc]
    rw [e]
    exact this
