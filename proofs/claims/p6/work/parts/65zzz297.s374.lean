/-! The class: cells are marked. -/
section CSL
variable {g g' g2 : Nat → Prop} {l l' l2 : List Nat} {t t' t2 : Nat} {σ σ' σ2 : CS} {L : LV} {x y i : Int32} {M M' U U' : Nat → Int32}
theorem u_sar5 {x : Int32} (h : uN x < 2147483648) : uN (x >>> ((5 : Int32) &&& 31)) = uN x / 32 := by
  show (x.toBitVec.sshiftRight' (((5 : Int32) &&& 31).toBitVec.smod 32)).toNat = _
  rw [BitVec.sshiftRight_eq', show (((5 : Int32) &&& 31).toBitVec.smod 32).toNat = 5 from by decide, BitVec.sshiftRight_eq_of_msb_false (by rw [BitVec.msb_eq_decide]; exact decide_eq_false (by show ¬ 2 ^ 31 ≤ uN x; omega)), BitVec.toNat_ushiftRight, Nat.shiftRight_eq_div_pow]
  rfl
theorem u_and5 (x : Int32) : x &&& 31 = nI (uN x % 32) := by
  rw [u_of (x &&& 31), u_and]
  exact congrArg nI (Nat.and_two_pow_sub_one_eq_mod (uN x) 5)
theorem u_and1 (x : Int32) : x &&& 1 = nI (uN x % 2) := by
  rw [u_of (x &&& 1), u_and]
  exact congrArg nI (Nat.and_two_pow_sub_one_eq_mod (uN x) 1)
theorem sh_1 : ∀ s, s < 32 → uN ((1 : Int32) <<< (nI s &&& 31)) = 2 ^ s := by decide +kernel
theorem sh_2 : ∀ s, s < 32 → ((nI s).toUInt32 &&& Int32.toUInt32 31).toBitVec.toNat % 32 = s := by decide +kernel
theorem tb_i (z s : Nat) : z / 2 ^ s % 2 = 1 ↔ z.testBit s = true := by
  rw [Nat.testBit_eq_decide_div_mod_eq, decide_eq_true_eq]
theorem bI_2 (U : Nat → Int32) (p : Nat) : bI U p = 0 ∨ bI U p = 1 := by
  unfold bI
  omega
/-- a bit is looked at -/
theorem bit_t (U : Nat → Int32) (h : uN x < 2147483648) : ((((U (x >>> ((5 : Int32) &&& 31)).toNatClampNeg).toUInt32 >>> ((x &&& 31).toUInt32 &&& Int32.toUInt32 31)).toInt32) &&& 1) = 0 ↔ bI U (uN x) = 0 := by
  rw [u_cl (by rw [u_sar5 h]; omega), u_sar5 h, u_and1, u_and5, u_shr _ (nI (uN x % 32)) (k := uN x % 32) (sh_2 _ (by omega)), u_eq, u_n (by omega)]
  exact Iff.rfl
/-- a bit is set -/
theorem bit_s (U : Nat → Int32) (h : uN x < 2147483648) : ∀ p, bI (upd U (x >>> ((5 : Int32) &&& 31)).toNatClampNeg (U (x >>> ((5 : Int32) &&& 31)).toNatClampNeg ||| ((1 : Int32) <<< ((x &&& 31) &&& 31)))) p = if p = uN x then 1 else bI U p := by
  intro p
  rw [u_cl (by rw [u_sar5 h]; omega), u_sar5 h]
  have e1 : uN (U (uN x / 32) ||| ((1 : Int32) <<< ((x &&& 31) &&& 31))) = uN (U (uN x / 32)) ||| 2 ^ (uN x % 32) := by
    rw [u_or, u_and5 x, sh_1 _ (by omega)]
  unfold bI
  by_cases c : p / 32 = uN x / 32
  · rw [c, upd_same, e1]
    by_cases d : p = uN x
    · rw [if_pos d, d, tb_i, Nat.testBit_or, Nat.testBit_two_pow_self, Bool.or_true]
    · rw [if_neg d]
      have ne : uN x % 32 ≠ p % 32 := by omega
      have q1 := tb_i (uN (U (uN x / 32)) ||| 2 ^ (uN x % 32)) (p % 32)
      have q2 := tb_i (uN (U (uN x / 32))) (p % 32)
      rw [Nat.testBit_or, Nat.testBit_two_pow_of_ne ne, Bool.or_false] at q1
      have q3 := q1.trans q2.symm
      revert q3
      generalize (uN (U (uN x / 32)) ||| 2 ^ (uN x % 32)) / 2 ^ (p % 32) = a
      generalize uN (U (uN x / 32)) / 2 ^ (p % 32) = b
      intro q3
      omega
  · rw [upd_other c, if_neg (by intro e; exact c (by rw [e]))]
/-- cells lie apart -/
theorem TlC_ge : ∀ (l : List Nat) (a : Nat), TlC M t a l → ∀ p, p ∈ l → a ≤ p ∧ p + 1 + hdW (uN (M p)) ≤ t
  | [], a, h, p, hp => absurd hp (List.not_mem_nil)
  | q :: l, a, h, p, hp => by
    obtain ⟨h1, h2, h3, h4⟩ := h
    rcases List.mem_cons.1 hp with e | e
    · rw [e]
      exact ⟨by omega, h3⟩
    · have z := TlC_ge l _ h4 p e
      exact ⟨by omega, z.2⟩
theorem TlC_dj : ∀ (l : List Nat) (a : Nat), TlC M t a l → ∀ p q, p ∈ l → q ∈ l → p = q ∨ p + hdW (uN (M p)) < q ∨ q + hdW (uN (M q)) < p
  | [], a, h, p, q, hp, hq => absurd hp (List.not_mem_nil)
  | r :: l, a, h, p, q, hp, hq => by
    obtain ⟨h1, h2, h3, h4⟩ := h
    rcases List.mem_cons.1 hp with e | e
    · rcases List.mem_cons.1 hq with f | f
      · exact Or.inl (e.trans f.symm)
      · have z := TlC_ge l _ h4 q f
        right; left
        rw [e]
        omega
    · rcases List.mem_cons.1 hq with f | f
      · have z := TlC_ge l _ h4 p e
        right; right
        rw [f]
        omega
      · exact TlC_dj l _ h4 p q e f
/-- marks: whole cells, good ones -/
def BI (g : Nat → Prop) (l : List Nat) (M U : Nat → Int32) : Prop := (∀ q, q ∈ l → ∀ j, j ≤ hdW (uN (M q)) → bI U (q + j) = bI U q) ∧ (∀ q, q ∈ l → bI U q = 1 → g q) ∧ (bI U 0 = 1 ∧ bI U 1 = 1 ∧ bI U 2 = 1)
/-- the members of a cell are marked -/
def ClU (M U : Nat → Int32) (q : Nat) : Prop := 5 ≤ hdK (uN (M q)) → ∀ i, i < hdL (uN (M q)) → 3 ≤ uN (M (q + 1 + i)) → uN (M (q + 1 + i)) < 2147483648 → bI U (uN (M (q + 1 + i))) = 1
theorem ClU_m {q : Nat} (hm : ∀ p, bI U p = 1 → bI U' p = 1) (h : ClU M U q) : ClU M U' q := fun k i hi a b => hm _ (h k i hi a b)
/-- what marking leaves -/
def MkU (g : Nat → Prop) (l : List Nat) (σ : CS) (U' : Nat → Int32) : Prop := BI g l (σ.2.2.1 3) U' ∧ (∀ p, bI (σ.2.2.1 1) p = 1 → bI U' p = 1) ∧ (∀ q, q ∈ l → bI U' q = 1 → bI (σ.2.2.1 1) q = 1 ∨ ClU (σ.2.2.1 3) U' q)
def MkO (g : Nat → Prop) (l : List Nat) (σ : CS) (h : Nat) (r : Int32 × CS) : Prop := ∃ U', r.2 = uF σ 1 U' ∧ MkU g l σ U' ∧ bI U' h = 1
def MkD (g : Nat → Prop) (l : List Nat) (t d : Nat) : Prop := ∀ (L : LV) (σ : CS), HQ g l t σ → BI g l (σ.2.2.1 3) (σ.2.2.1 1) → g (uN (L.1 1)) → 3 ≤ uN (L.1 1) → uN (L.1 1) < 2147483648 → hgt (σ.2.2.1 3) (L.1 1) ≤ d → Tm (fun k => y_H2 k d 0 0 L σ) (MkO g l σ (uN (L.1 1)))
theorem in_u (h : HQ g l t σ) {p : Nat} (hp : p < t) : p / 32 < sN σ 1 ∧ p / 32 < sN σ 2 ∧ sN σ 1 ≤ 5000 ∧ sN σ 2 ≤ 5000 := by
  have a := h.2.1
  rcases h.2.2.1 with z | z <;> omega
theorem in_ui (h : HQ g l t σ) (hp : uN x < t) : ¬ (x >>> ((5 : Int32) &&& 31) < 0 ∨ sN σ 1 ≤ (x >>> ((5 : Int32) &&& 31)).toNatClampNeg) := by
  have a := in_u h hp
  have b := h.2.1
  have c := HQ_n h
  have e := u_sar5 (x := x) (by omega)
  exact u_in (by omega) (by omega)
theorem mc_0 (k d : Nat) (L : LV) (σ : CS) : y_H2 (k + 1) d 0 0 L σ = (if ¬ (((((L.1 1)) >>> ((5 : Int32) &&& 31))) < 0 ∨ (sN σ 1) ≤ ((((L.1 1)) >>> ((5 : Int32) &&& 31))).toNatClampNeg) then (if (((((((σ.2.2.1 1 ((((L.1 1)) >>> ((5 : Int32) &&& 31))).toNatClampNeg)).toUInt32 >>> (((((L.1 1)) &&& 31)).toUInt32 &&& Int32.toUInt32 31)).toInt32)) &&& 1)) = 0 then (y_H2 k d 0 1 L σ) else (some (0, σ))) else none) := rfl
theorem mc_1 (k d : Nat) (L : LV) (σ : CS) : y_H2 (k + 1) d 0 1 L σ = (if ¬ (((L.1 1)) < 0 ∨ (sN σ 3) ≤ ((L.1 1)).toNatClampNeg) then (if ¬ (((L.1 1)) < 0 ∨ (sN σ 3) ≤ ((L.1 1)).toNatClampNeg) then (if ((((σ.2.2.1 3 ((L.1 1)).toNatClampNeg)) &&& 7)) = 4 then (y_H2 k d 0 3 (lI (lI (lI L 2 ((((σ.2.2.1 3 ((L.1 1)).toNatClampNeg)) &&& 7))) 100 (((((((((((σ.2.2.1 3 ((L.1 1)).toNatClampNeg)).toUInt32 >>> ((4 : Int32).toUInt32 &&& Int32.toUInt32 31)).toInt32)) &&& 4095)) + 3)) >>> ((2 : Int32) &&& 31)))) 101 ((L.1 1))) σ) else (y_H2 k d 0 2 (lI (lI (lI L 2 ((((σ.2.2.1 3 ((L.1 1)).toNatClampNeg)) &&& 7))) 3 (((((((σ.2.2.1 3 ((L.1 1)).toNatClampNeg)).toUInt32 >>> ((4 : Int32).toUInt32 &&& Int32.toUInt32 31)).toInt32)) &&& 4095))) 100 ((L.1 1))) σ)) else none) else none) := rfl
theorem mc_2 (k d : Nat) (L : LV) (σ : CS) : y_H2 (k + 1) d 0 2 L σ = (y_H2 k d 0 3 (lI (lI L 100 ((L.1 3))) 101 ((L.1 100))) σ) := rfl
theorem mc_3 (k d : Nat) (L : LV) (σ : CS) : y_H2 (k + 1) d 0 3 L σ = (y_H2 k d 0 4 (lI (lI L 4 ((((L.1 101)) + ((L.1 100))))) 5 ((L.1 1))) σ) := rfl
theorem mc_4 (k d : Nat) (L : LV) (σ : CS) : y_H2 (k + 1) d 0 4 L σ = (if ((L.1 4)) < ((L.1 5)) then (y_H2 k d 0 5 L σ) else (if ¬ (((((L.1 5)) >>> ((5 : Int32) &&& 31))) < 0 ∨ (sN σ 1) ≤ ((((L.1 5)) >>> ((5 : Int32) &&& 31))).toNatClampNeg) then (if ¬ (((((L.1 5)) >>> ((5 : Int32) &&& 31))) < 0 ∨ (sN σ 1) ≤ ((((L.1 5)) >>> ((5 : Int32) &&& 31))).toNatClampNeg) then (y_H2 k d 0 4 (lI L 5 ((((L.1 5)) + 1))) (uA σ 1 ((((L.1 5)) >>> ((5 : Int32) &&& 31))).toNatClampNeg ((((σ.2.2.1 1 ((((L.1 5)) >>> ((5 : Int32) &&& 31))).toNatClampNeg)) ||| (((1 : Int32) <<< (((((L.1 5)) &&& 31)) &&& 31))))))) else none) else none)) := rfl
theorem mc_5 (k d : Nat) (L : LV) (σ : CS) : y_H2 (k + 1) d 0 5 L σ = (y_H2 k d 0 6 (lI L 5 ((((L.1 1)) + 1))) σ) := rfl
theorem mc_6 (k d : Nat) (L : LV) (σ : CS) : y_H2 (k + 1) d 0 6 L σ = (if ((L.1 4)) < ((L.1 5)) then (y_H2 k d 0 7 L σ) else (if ((L.1 2)) < 5 then (y_H2 k d 0 7 L σ) else (if ¬ (((L.1 5)) < 0 ∨ (sN σ 3) ≤ ((L.1 5)).toNatClampNeg) then (if ((σ.2.2.1 3 ((L.1 5)).toNatClampNeg)) < 3 then (y_H2 k d 0 8 L σ) else (if ¬ (((L.1 5)) < 0 ∨ (sN σ 3) ≤ ((L.1 5)).toNatClampNeg) then (oe d (fun e6 => oc (y_H2 k e6 0 0 (lI lZ 1 ((σ.2.2.1 3 ((L.1 5)).toNatClampNeg))) σ) (fun r6 => y_H2 k d 0 8 L r6.2))) else none)) else none))) := rfl
theorem mc_7 (k d : Nat) (L : LV) (σ : CS) : y_H2 (k + 1) d 0 7 L σ = (some (0, σ)) := rfl
theorem mc_8 (k d : Nat) (L : LV) (σ : CS) : y_H2 (k + 1) d 0 8 L σ = (y_H2 k d 0 6 (lI L 5 ((((L.1 5)) + 1))) σ) := rfl
/-- its members -/
theorem mk_6 {d h W : Nat} (ih : ∀ e, d = e + 1 → MkD g l t e) (hq : HQ g l t σ) (hg : g h) (hl : h ∈ l) (hW : W = hdW (uN (σ.2.2.1 3 h))) (hd : hdT (uN (σ.2.2.1 3 h)) ≤ d) : ∀ (m : Nat) (L : LV) (U : Nat → Int32), uN (L.1 5) + m = h + W + 1 → h < uN (L.1 5) → uN (L.1 4) = h + W → L.1 2 = nI (hdK (uN (σ.2.2.1 3 h))) → BI g l (σ.2.2.1 3) U → bI U h = 1 → (∀ p, bI (σ.2.2.1 1) p = 1 → bI U p = 1) → (∀ q, q ∈ l → bI U q = 1 → q = h ∨ bI (σ.2.2.1 1) q = 1 ∨ ClU (σ.2.2.1 3) U q) → (5 ≤ hdK (uN (σ.2.2.1 3 h)) → ∀ j, h + 1 + j < uN (L.1 5) → j < hdL (uN (σ.2.2.1 3 h)) → 3 ≤ uN (σ.2.2.1 3 (h + 1 + j)) → uN (σ.2.2.1 3 (h + 1 + j)) < 2147483648 → bI U (uN (σ.2.2.1 3 (h + 1 + j))) = 1) → Tm (fun k => y_H2 k d 0 6 L (uF σ 1 U)) (MkO g l σ h) := by
  have c := HQ_c hq hg
  have k8 : hdK (uN (σ.2.2.1 3 h)) < 8 := Nat.mod_lt _ (by decide)
  have fin : ∀ (L : LV) (U : Nat → Int32), BI g l (σ.2.2.1 3) U → bI U h = 1 → (∀ p, bI (σ.2.2.1 1) p = 1 → bI U p = 1) → (∀ q, q ∈ l → bI U q = 1 → q = h ∨ bI (σ.2.2.1 1) q = 1 ∨ ClU (σ.2.2.1 3) U q) → ClU (σ.2.2.1 3) U h → Tm (fun k => y_H2 k d 0 7 L (uF σ 1 U)) (MkO g l σ h) := by
    intro L U b bh bm bc bk
    refine Tm_suc (fun k => mc_7 k _ _ _) ?_
    refine Tm_some ⟨U, rfl, ⟨b, bm, fun q hq1 hq2 => ?_⟩, bh⟩
    rcases bc q hq1 hq2 with z | z | z
    · right; rw [z]; exact bk
    · exact Or.inl z
    · exact Or.inr z
  intro m
  induction m with
  | zero =>
    intro L U a5 a5' a4 a2 b bh bm bc bj
    refine Tm_suc (fun k => mc_6 k _ _ _) ?_
    refine Tm_yes (by rw [u_ltn (by omega) (by omega)]; omega) (fin _ _ b bh bm bc ?_)
    intro k5 i hi
    have w5 := hdW_5 k5
    exact bj k5 i (by omega) hi
  | succ m ih2 =>
    intro L U a5 a5' a4 a2 b bh bm bc bj
    have e2 : uN (L.1 2) = hdK (uN (σ.2.2.1 3 h)) := by rw [a2, u_n (by omega)]
    have u5 : uN (5 : Int32) = 5 := rfl
    have u3 : uN (3 : Int32) = 3 := rfl
    refine Tm_suc (fun k => mc_6 k _ _ _) ?_
    refine Tm_no (by rw [u_ltn (by omega) (by omega)]; omega) ?_
    refine Tm_ite (fun k5 => ?_) (fun k5 => ?_)
    · rw [u_ltn (by omega) (by omega)] at k5
      exact fin _ _ b bh bm bc (fun k => absurd k (by omega))
    · rw [u_ltn (by omega) (by omega)] at k5
      have k5' : 5 ≤ hdK (uN (σ.2.2.1 3 h)) := by omega
      have w5 := hdW_5 k5'
      have i5 : ¬ (L.1 5 < 0 ∨ sN (uF σ 1 U) 3 ≤ (L.1 5).toNatClampNeg) := u_in (by show _ < sN σ 3; omega) (by show sN σ 3 ≤ _; omega)
      have mem := (c.2.2.2.2.2.2.2.2.2.1 k5').2.2 (uN (L.1 5) - h - 1) (by omega)
      rw [show h + 1 + (uN (L.1 5) - h - 1) = uN (L.1 5) from by omega] at mem
      have b8 : ∀ (U2 : Nat → Int32), BI g l (σ.2.2.1 3) U2 → (∀ p, bI U p = 1 → bI U2 p = 1) → (∀ q, q ∈ l → bI U2 q = 1 → bI U q = 1 ∨ ClU (σ.2.2.1 3) U2 q) → (3 ≤ uN (σ.2.2.1 3 (uN (L.1 5))) → uN (σ.2.2.1 3 (uN (L.1 5))) < 2147483648 → bI U2 (uN (σ.2.2.1 3 (uN (L.1 5)))) = 1) → Tm (fun k => y_H2 k d 0 8 L (uF σ 1 U2)) (MkO g l σ h) := by
        intro U2 z1 z2 z3 z4
        refine Tm_suc (fun k => mc_8 k _ _ _) ?_
        refine ih2 _ U2 ?_ ?_ ?_ ?_ z1 (z2 _ bh) (fun p hp => z2 p (bm p hp)) ?_ ?_
        · show uN (L.1 5 + 1) + m = _
          rw [u_inc (by omega)]; omega
        · show h < uN (L.1 5 + 1)
          rw [u_inc (by omega)]; omega
        · exact a4
        · exact a2
        · intro q q1 q2
          rcases z3 q q1 q2 with w | w
          · rcases bc q q1 w with v | v | v
            · exact Or.inl v
            · exact Or.inr (Or.inl v)
            · exact Or.inr (Or.inr (ClU_m z2 v))
          · exact Or.inr (Or.inr w)
        · intro _ j hj hj2 h3 h4
          have hj' : h + 1 + j < uN (L.1 5 + 1) := hj
          rw [u_inc (by omega)] at hj'
          rcases Nat.lt_or_ge (h + 1 + j) (uN (L.1 5)) with v | v
          · exact z2 _ (bj k5' j v hj2 h3 h4)
          · have ej : h + 1 + j = uN (L.1 5) := by omega
            rw [ej] at h3 h4 ⊢
            exact z4 h3 h4
      refine Tm_chk i5 ?_
      refine Tm_ite (fun c3 => ?_) (fun c3 => ?_)
      · refine b8 U b (fun _ z => z) (fun q q1 q2 => Or.inl q2) (fun h3 h4 => ?_)
        exfalso
        have c3' : σ.2.2.1 3 (L.1 5).toNatClampNeg < 3 := c3
        rw [u_cl (by omega), u_ltn (by omega) (by decide)] at c3'
        omega
      · have c3' : ¬ σ.2.2.1 3 (L.1 5).toNatClampNeg < 3 := c3
        rw [u_cl (by omega)] at c3'
        have n3 : uN (σ.2.2.1 3 (uN (L.1 5))) < 2147483648 := by
          rcases Nat.lt_or_ge (uN (σ.2.2.1 3 (uN (L.1 5)))) 2147483648 with v | v
          · exact v
          · exfalso
            apply c3'
            rw [i_lt, u_int, u_int, if_neg (by omega), if_pos (by decide)]
            have := u_lt (σ.2.2.1 3 (uN (L.1 5)))
            omega
        rw [u_ltn n3 (by decide)] at c3'
        refine Tm_chk i5 ?_
        obtain ⟨e, he⟩ : ∃ e, d = e + 1 := ⟨d - 1, by have q := mem.2; omega⟩
        subst he
        refine Tm_oe ?_
        have cm := Gv_c mem.1 n3
        refine Tm_oc (ih e rfl _ _ (HQ_f hq (k := 1) (by decide) U) b ?_ ?_ ?_ ?_) (fun r q => ?_)
        · show g (uN (σ.2.2.1 3 (L.1 5).toNatClampNeg))
          rw [u_cl (by omega)]; exact cm.2
        · show 3 ≤ uN (σ.2.2.1 3 (L.1 5).toNatClampNeg)
          rw [u_cl (by omega)]; omega
        · show uN (σ.2.2.1 3 (L.1 5).toNatClampNeg) < _
          rw [u_cl (by omega)]; exact n3
        · show hgt (σ.2.2.1 3) (σ.2.2.1 3 (L.1 5).toNatClampNeg) ≤ e
          rw [u_cl (by omega)]
          have q := mem.2
          omega
        · obtain ⟨U2, q1, q2, q3⟩ := q
          rw [q1, uF_f]
          have q3' : bI U2 (uN (σ.2.2.1 3 (L.1 5).toNatClampNeg)) = 1 := q3
          rw [u_cl (by omega)] at q3'
          exact b8 U2 q2.1 q2.2.1 q2.2.2 (fun _ _ => q3')
/-- its ints -/
theorem mk_4 {d h W : Nat} (ih : ∀ e, d = e + 1 → MkD g l t e) (hq : HQ g l t σ) (hb : BI g l (σ.2.2.1 3) (σ.2.2.1 1)) (hg : g h) (hl : h ∈ l) (hW : W = hdW (uN (σ.2.2.1 3 h))) (hd : hdT (uN (σ.2.2.1 3 h)) ≤ d) : ∀ (m : Nat) (L : LV) (U : Nat → Int32), uN (L.1 5) + m = h + W + 1 → h ≤ uN (L.1 5) → uN (L.1 4) = h + W → uN (L.1 1) = h → L.1 2 = nI (hdK (uN (σ.2.2.1 3 h))) → (∀ p, bI U p = if h ≤ p ∧ p < uN (L.1 5) then 1 else bI (σ.2.2.1 1) p) → Tm (fun k => y_H2 k d 0 4 L (uF σ 1 U)) (MkO g l σ h) := by
  have c := HQ_c hq hg
  intro m
  induction m with
  | zero =>
    intro L U a5 a5' a4 a1 a2 hU
    have h1 : ∀ j, j ≤ W → bI U (h + j) = 1 := by
      intro j hj
      rw [hU, if_pos ⟨by omega, by omega⟩]
    have hm : ∀ p, bI (σ.2.2.1 1) p = 1 → bI U p = 1 := by
      intro p hp
      rw [hU]
      split
      · rfl
      · exact hp
    have same : ∀ q, q ∈ l → ¬ q = h → ∀ j, j ≤ hdW (uN (σ.2.2.1 3 q)) → bI U (q + j) = bI (σ.2.2.1 1) (q + j) := by
      intro q q1 q2 j hj
      rw [hU, if_neg]
      rcases TlC_dj l _ hq.2.2.2.2.2.1 q h q1 hl with v | v | v
      · exact absurd v q2
      · omega
      · omega
    refine Tm_suc (fun k => mc_4 k _ _ _) ?_
    refine Tm_yes (by rw [u_ltn (by omega) (by omega)]; omega) ?_
    refine Tm_suc (fun k => mc_5 k _ _ _) ?_
    refine mk_6 ih hq hg hl hW hd W _ U ?_ ?_ ?_ ?_ ⟨?_, ?_, ?_, ?_, ?_⟩ (h1 0 (by omega)) hm ?_ ?_
    · show uN (L.1 1 + 1) + W = _
      rw [u_inc (by omega)]; omega
    · show h < uN (L.1 1 + 1)
      rw [u_inc (by omega)]; omega
    · exact a4
    · exact a2
    · intro q q1 j hj
      by_cases v : q = h
      · rw [v] at hj ⊢
        rw [h1 j (by omega)]
        exact (h1 0 (by omega)).symm
      · rw [same q q1 v j hj, hb.1 q q1 j hj]
        exact (same q q1 v 0 (by omega)).symm
    · intro q q1 q2
      by_cases v : q = h
      · rw [v]; exact hg
      · have z := same q q1 v 0 (by omega)
        rw [Nat.add_zero] at z
        exact hb.2.1 q q1 (by rw [← z]; exact q2)
    · exact hm 0 hb.2.2.1
    · exact hm 1 hb.2.2.2.1
    · exact hm 2 hb.2.2.2.2
    · intro q q1 q2
      by_cases v : q = h
      · exact Or.inl v
      · have z := same q q1 v 0 (by omega)
        rw [Nat.add_zero] at z
        exact Or.inr (Or.inl (by rw [← z]; exact q2))
    · intro _ j hj
      have hj' : h + 1 + j < uN (L.1 1 + 1) := hj
      rw [u_inc (by omega)] at hj'
      omega
  | succ m ih2 =>
    intro L U a5 a5' a4 a1 a2 hU
    have i5 := in_ui (x := L.1 5) hq (by omega)
    refine Tm_suc (fun k => mc_4 k _ _ _) ?_
    refine Tm_no (by rw [u_ltn (by omega) (by omega)]; omega) ?_
    refine Tm_chk i5 (Tm_chk i5 ?_)
    rw [uF_a]
    refine ih2 _ _ ?_ ?_ ?_ ?_ ?_ ?_
    · show uN (L.1 5 + 1) + m = _
      rw [u_inc (by omega)]; omega
    · show h ≤ uN (L.1 5 + 1)
      rw [u_inc (by omega)]; omega
    · exact a4
    · exact a1
    · exact a2
    · show ∀ p, bI (upd U (L.1 5 >>> ((5 : Int32) &&& 31)).toNatClampNeg (U (L.1 5 >>> ((5 : Int32) &&& 31)).toNatClampNeg ||| ((1 : Int32) <<< ((L.1 5 &&& 31) &&& 31)))) p = if h ≤ p ∧ p < uN (L.1 5 + 1) then 1 else bI (σ.2.2.1 1) p
      intro p
      rw [bit_s U (by omega), u_inc (by omega)]
      by_cases v : p = uN (L.1 5)
      · rw [if_pos v, if_pos (by omega)]
      · rw [if_neg v, hU]
        by_cases w : h ≤ p ∧ p < uN (L.1 5)
        · rw [if_pos w, if_pos (by omega)]
        · rw [if_neg w, if_neg (by omega)]
theorem mk_b (d : Nat) (ih : ∀ e, d = e + 1 → MkD g l t e) : MkD g l t d := by
  intro L σ hq hb hg h3 h1 hd
  have c := HQ_c hq hg
  have hl : uN (L.1 1) ∈ l := by
    rcases (hq.2.2.2.2.2.2 _ hg).1 with z | z
    · omega
    · exact z
  have i3 : ¬ (L.1 1 < 0 ∨ sN σ 3 ≤ (L.1 1).toNatClampNeg) := u_in (by omega) (by omega)
  have cl : hdL (uN (σ.2.2.1 3 (uN (L.1 1)))) < 4096 := Nat.mod_lt _ (by decide)
  have hd' : hdT (uN (σ.2.2.1 3 (uN (L.1 1)))) ≤ d := by
    unfold hgt at hd
    rw [if_pos h1] at hd
    exact hd
  have b3 : ∀ L' : LV, uN (L'.1 100) = hdW (uN (σ.2.2.1 3 (uN (L.1 1)))) → L'.1 101 = L.1 1 → L'.1 1 = L.1 1 → L'.1 2 = nI (hdK (uN (σ.2.2.1 3 (uN (L.1 1))))) → Tm (fun k => y_H2 k d 0 3 L' σ) (MkO g l σ (uN (L.1 1))) := by
    intro L' a100 a101 a1 a2
    refine Tm_suc (fun k => mc_3 k _ _ _) ?_
    have e := uF_id σ 1
    rw [← e]
    have z := mk_4 ih hq hb hg hl rfl hd' (hdW (uN (σ.2.2.1 3 (uN (L.1 1)))) + 1) (lI (lI L' 4 (L'.1 101 + L'.1 100)) 5 (L'.1 1)) (σ.2.2.1 1) ?_ ?_ ?_ ?_ ?_ ?_
    · rw [e] at z ⊢
      exact z
    · show uN (L'.1 1) + _ = _
      rw [a1]; omega
    · show _ ≤ uN (L'.1 1)
      rw [a1]; exact Nat.le_refl _
    · show uN (L'.1 101 + L'.1 100) = _
      rw [a101, u_add (by omega), a100]
    · show uN (L'.1 1) = _
      rw [a1]
    · exact a2
    · intro p
      show _ = if uN (L.1 1) ≤ p ∧ p < uN (L'.1 1) then _ else _
      rw [a1, if_neg (by omega)]
  refine Tm_suc (fun k => mc_0 k _ _ _) ?_
  refine Tm_chk (in_ui hq (by omega)) ?_
  refine Tm_ite (fun c0 => ?_) (fun c0 => ?_)
  · refine Tm_suc (fun k => mc_1 k _ _ _) ?_
    refine Tm_chk i3 (Tm_chk i3 ?_)
    rw [e_knd, e_len, u_cl h1]
    have k8 : hdK (uN (σ.2.2.1 3 (uN (L.1 1)))) < 8 := Nat.mod_lt _ (by decide)
    refine Tm_ite (fun k4 => ?_) (fun k4 => ?_)
    · rw [u_eq, u_n (by omega)] at k4
      have k4' : hdK (uN (σ.2.2.1 3 (uN (L.1 1)))) = 4 := k4
      refine b3 _ ?_ ?_ ?_ ?_
      · show uN ((nI (hdL (uN (σ.2.2.1 3 (uN (L.1 1))))) + 3) >>> ((2 : Int32) &&& 31)) = _
        have u3 : uN (3 : Int32) = 3 := rfl
        rw [u_sar2 (by rw [u_add (by rw [u_n (by omega)]; omega), u_n (by omega)]; omega), u_add (by rw [u_n (by omega)]; omega), u_n (by omega)]
        unfold hdK at k4'
        unfold hdW
        rw [if_pos k4', u3]
      · rfl
      · rfl
      · rfl
    · rw [u_eq, u_n (by omega)] at k4
      have k4' : ¬ hdK (uN (σ.2.2.1 3 (uN (L.1 1)))) = 4 := k4
      refine Tm_suc (fun k => mc_2 k _ _ _) ?_
      refine b3 _ ?_ ?_ ?_ ?_
      · show uN (nI (hdL (uN (σ.2.2.1 3 (uN (L.1 1)))))) = _
        rw [u_n (by omega)]
        unfold hdK at k4'
        unfold hdW
        rw [if_neg k4']
      · rfl
      · rfl
      · rfl
  · rw [bit_t _ h1] at c0
    refine Tm_some ⟨σ.2.2.1 1, (uF_id σ 1).symm, ⟨hb, fun _ z => z, fun q _ z => Or.inl z⟩, ?_⟩
    rcases bI_2 (σ.2.2.1 1) (uN (L.1 1)) with z | z
    · exact absurd z c0
    · exact z
theorem mk_all : ∀ d, MkD g l t d
  | 0 => mk_b 0 (fun e he => by omega)
  | d + 1 => mk_b (d + 1) (fun e he => by
    have q : e = d := by omega
    rw [q]
    exact mk_all d)
theorem c_markCell (h : HQ g l t σ) (hb : BI g l (σ.2.2.1 3) (σ.2.2.1 1)) (hg : g (uN (L.1 1))) (h3 : 3 ≤ uN (L.1 1)) (h1 : uN (L.1 1) < 2147483648) : Tm (fun k => y_X1_markCell k 0 L σ) (MkO g l σ (uN (L.1 1))) := by
  refine mk_all 60 L σ h hb hg h3 h1 ?_
  have c := (HQ_c h hg).2.2.2.2.2.2.2.1.1
  unfold hgt
  rw [if_pos h1]
  omega
end CSL
