/-! The class: the order. -/
theorem Tm_oe {e : Nat} {f : Nat → Nat → Option (Int32 × CS)} {Q : Int32 × CS → Prop} (t : Tm (fun k => f k e) Q) : Tm (fun k => oe (e + 1) (f k)) Q := t
theorem u_dec {x : Int32} (h : 1 ≤ uN x) : uN (x + (-1)) = uN x - 1 := by
  show (x.toBitVec + (-1 : Int32).toBitVec).toNat = _
  rw [BitVec.toNat_add]
  have q := u_lt x
  show (uN x + 4294967295) % 4294967296 = _
  omega
theorem u_inc {x : Int32} (h : uN x < 4294967295) : uN (x + 1) = uN x + 1 := u_add (y := 1) (by show uN x + 1 < _; omega)
section CRF
variable {g : Nat → Prop} {l : List Nat} {t : Nat} {σ : CS} {L : LV} {x y i : Int32}
/-- a byte of a string -/
theorem in_gs (h : HQ g l t σ) (hv : Gv g x) (c : uN x < 2147483648) (k1 : hdK (uN (σ.2.2.1 3 (uN x))) = 4) (k2 : uN i < hdL (uN (σ.2.2.1 3 (uN x)))) : ¬ (x + 1 + (i >>> ((2 : Int32) &&& 31)) < 0 ∨ sN σ 3 ≤ (x + 1 + (i >>> ((2 : Int32) &&& 31))).toNatClampNeg) := by
  have l2 : hdL (uN (σ.2.2.1 3 (uN x))) < 4096 := Nat.mod_lt _ (by decide)
  have s2 : uN (i >>> ((2 : Int32) &&& 31)) = uN i / 4 := u_sar2 (by omega)
  have e1 : uN (1 + (i >>> ((2 : Int32) &&& 31))) = 1 + uN i / 4 := by
    rw [u_add (x := 1) (by rw [s2]; show 1 + uN i / 4 < _; omega), s2]; rfl
  have z := in_gi (y := 1 + (i >>> ((2 : Int32) &&& 31))) h hv c (by rw [e1]; exact hdW_s k1 k2)
  rw [← Int32.add_assoc] at z
  exact z.1
/-- it answers, and nothing is changed -/
abbrev Qs (σ : CS) : Int32 × CS → Prop := fun r => r.2 = σ
theorem cw_end (L : LV) : Tm (fun k => y_X1_compareWholes k 16 L σ) (Qs σ) := by
  refine Tm_suc (fun k => by rw [y_X1_compareWholes]) ?_
  refine Tm_ite (fun _ => ?_) (fun _ => ?_)
  · refine Tm_suc (fun k => by rw [y_X1_compareWholes]) ?_
    refine Tm_suc (fun k => by rw [y_X1_compareWholes]) ?_
    exact Tm_some rfl
  · refine Tm_suc (fun k => by rw [y_X1_compareWholes]) ?_
    exact Tm_some rfl
theorem cw_loop (h : HQ g l t σ) (hx : Gv g x) (hy : Gv g y) (cx : uN x < 2147483648) (cy : uN y < 2147483648) (kx : hdK (uN (σ.2.2.1 3 (uN x))) = 2) (ky : hdK (uN (σ.2.2.1 3 (uN y))) = 2) : ∀ (n : Nat) (L : LV), L.1 1 = x → L.1 2 = y → uN (L.1 8) = n → n < 4096 → (L.1 7 = 0 → n ≤ hdL (uN (σ.2.2.1 3 (uN x))) ∧ n ≤ hdL (uN (σ.2.2.1 3 (uN y)))) → Tm (fun k => y_X1_compareWholes k 15 L σ) (Qs σ) := by
  have wx : hdW (uN (σ.2.2.1 3 (uN x))) = hdL (uN (σ.2.2.1 3 (uN x))) := by
    unfold hdK at kx; unfold hdW; rw [if_neg (by omega)]
  have wy : hdW (uN (σ.2.2.1 3 (uN y))) = hdL (uN (σ.2.2.1 3 (uN y))) := by
    unfold hdK at ky; unfold hdW; rw [if_neg (by omega)]
  intro n
  induction n with
  | zero =>
    intro L d1 d2 d8 hn d7
    refine Tm_suc (fun k => by rw [y_X1_compareWholes]) ?_
    refine Tm_yes ?_ (cw_end _)
    rw [u_le (by omega) (by decide), d8]
    exact Nat.zero_le _
  | succ m ih =>
    intro L d1 d2 d8 hn d7
    refine Tm_suc (fun k => by rw [y_X1_compareWholes]) ?_
    refine Tm_ite (fun _ => cw_end _) (fun c => ?_)
    refine Tm_ite (fun c7 => ?_) (fun _ => cw_end _)
    have b := d7 c7
    rw [d1, d2]
    refine Tm_chk (in_gi h hx cx (by omega)).1 ?_
    refine Tm_chk (in_gi h hy cy (by omega)).1 ?_
    have st : ∀ L' : LV, L'.1 1 = x → L'.1 2 = y → L'.1 8 = L.1 8 → Tm (fun k => y_X1_compareWholes k 18 L' σ) (Qs σ) := by
      intro L' a1 a2 a8
      refine Tm_suc (fun k => by rw [y_X1_compareWholes]) ?_
      refine ih _ a1 a2 ?_ (by omega) (fun _ => by omega)
      show uN (L'.1 8 + (-1)) = m
      rw [a8, u_dec (by omega)]; omega
    refine Tm_ite (fun _ => st _ d1 d2 rfl) (fun _ => ?_)
    refine Tm_suc (fun k => by rw [y_X1_compareWholes]) ?_
    refine Tm_ite (fun _ => ?_) (fun _ => st _ d1 d2 rfl)
    refine Tm_suc (fun k => by rw [y_X1_compareWholes]) ?_
    exact st _ d1 d2 rfl
theorem c_compareWholes (h : HQ g l t σ) (hx : Gv g (L.1 1)) (hy : Gv g (L.1 2)) (kx : uN (L.1 1) < 2147483648 → hdK (uN (σ.2.2.1 3 (uN (L.1 1)))) = 2) (ky : uN (L.1 2) < 2147483648 → hdK (uN (σ.2.2.1 3 (uN (L.1 2)))) = 2) : Tm (fun k => y_X1_compareWholes k 0 L σ) (Qs σ) := by
  have b9 : ∀ L' : LV, L'.1 1 = L.1 1 → L'.1 2 = L.1 2 → uN (L.1 1) < 2147483648 → uN (L.1 2) < 2147483648 → Tm (fun k => y_X1_compareWholes k 9 L' σ) (Qs σ) := by
    intro L' a1 a2 cx cy
    have lx : hdL (uN (σ.2.2.1 3 (uN (L.1 1)))) < 4096 := Nat.mod_lt _ (by decide)
    have ly : hdL (uN (σ.2.2.1 3 (uN (L.1 2)))) < 4096 := Nat.mod_lt _ (by decide)
    refine Tm_suc (fun k => by rw [y_X1_compareWholes]) ?_
    rw [a1, a2]
    refine Tm_chk (in_g h hx cx) ?_
    refine Tm_chk (in_g h hy cy) ?_
    rw [e_len, e_len, u_cl cx, u_cl cy]
    refine Tm_ite (fun c => ?_) (fun c => ?_)
    · rw [u_eq, u_n (by omega), u_n (by omega)] at c
      refine Tm_suc (fun k => by rw [y_X1_compareWholes]) ?_
      refine cw_loop h hx hy cx cy (kx cx) (ky cy) (hdL (uN (σ.2.2.1 3 (uN (L.1 1))))) _ ?_ ?_ ?_ lx (fun _ => ⟨Nat.le_refl _, by omega⟩)
      · exact a1
      · exact a2
      · exact u_n (by omega)
    · have ot : ∀ L2 : LV, L2.1 1 = L.1 1 → L2.1 2 = L.1 2 → L2.1 5 = nI (hdL (uN (σ.2.2.1 3 (uN (L.1 1))))) → ¬ L2.1 100 = 0 → Tm (fun k => y_X1_compareWholes k 13 L2 σ) (Qs σ) := by
        intro L2 z1 z2 z5 z
        refine Tm_suc (fun k => by rw [y_X1_compareWholes]) ?_
        refine cw_loop h hx hy cx cy (kx cx) (ky cy) _ _ z1 z2 (by show uN (L2.1 5) = _; rw [z5]; exact u_n (by omega)) lx (fun e => absurd e z)
      refine Tm_suc (fun k => by rw [y_X1_compareWholes]) ?_
      refine Tm_ite (fun _ => ?_) (fun _ => ot _ a1 a2 rfl (by show ¬ (-1 : Int32) = 0; decide))
      refine Tm_suc (fun k => by rw [y_X1_compareWholes]) ?_
      exact ot _ a1 a2 rfl (by show ¬ (1 : Int32) = 0; decide)
  have b8 : ∀ L' : LV, Tm (fun k => y_X1_compareWholes k 8 L' σ) (Qs σ) := by
    intro L'
    refine Tm_suc (fun k => by rw [y_X1_compareWholes]) ?_
    refine Tm_ite (fun _ => ?_) (fun _ => ?_)
    · refine Tm_suc (fun k => by rw [y_X1_compareWholes]) ?_
      refine Tm_suc (fun k => by rw [y_X1_compareWholes]) ?_
      exact Tm_some rfl
    · refine Tm_suc (fun k => by rw [y_X1_compareWholes]) ?_
      exact Tm_some rfl
  have b4 : ∀ L' : LV, L'.1 1 = L.1 1 → L'.1 2 = L.1 2 → Tm (fun k => y_X1_compareWholes k 4 L' σ) (Qs σ) := by
    intro L' a1 a2
    refine Tm_suc (fun k => by rw [y_X1_compareWholes]) ?_
    refine Tm_ite (fun c => ?_) (fun c => ?_)
    · rw [u_nn, a1] at c
      refine Tm_suc (fun k => by rw [y_X1_compareWholes]) ?_
      refine Tm_ite (fun _ => b8 _) (fun d => ?_)
      have d' : ¬ L'.1 2 < 0 := d
      rw [u_neg, a2] at d'
      refine Tm_ite (fun _ => b9 _ a1 a2 c (by omega)) (fun _ => b8 _)
    · refine Tm_ite (fun _ => ?_) (fun _ => ?_)
      · refine Tm_suc (fun k => by rw [y_X1_compareWholes]) ?_
        refine Tm_suc (fun k => by rw [y_X1_compareWholes]) ?_
        exact Tm_some rfl
      · refine Tm_suc (fun k => by rw [y_X1_compareWholes]) ?_
        exact Tm_some rfl
  have b2 : ∀ L' : LV, L'.1 1 = L.1 1 → L'.1 2 = L.1 2 → Tm (fun k => y_X1_compareWholes k 2 L' σ) (Qs σ) := by
    intro L' a1 a2
    have b3 : ∀ L' : LV, L'.1 1 = L.1 1 → L'.1 2 = L.1 2 → Tm (fun k => y_X1_compareWholes k 3 L' σ) (Qs σ) := by
      intro L' a1 a2
      refine Tm_suc (fun k => by rw [y_X1_compareWholes]) ?_
      exact b4 _ a1 a2
    refine Tm_suc (fun k => by rw [y_X1_compareWholes]) ?_
    refine Tm_ite (fun _ => b3 _ a1 a2) (fun c => ?_)
    rw [u_neg, a2] at c
    rw [a2]
    refine Tm_chk (in_g h hy (by omega)) ?_
    exact Tm_ite (fun _ => b3 _ a1 a2) (fun _ => b4 _ a1 a2)
  have b1 : ∀ L' : LV, L'.1 1 = L.1 1 → L'.1 2 = L.1 2 → Tm (fun k => y_X1_compareWholes k 1 L' σ) (Qs σ) := by
    intro L' a1 a2
    refine Tm_suc (fun k => by rw [y_X1_compareWholes]) ?_
    exact b2 _ a1 a2
  refine Tm_suc (fun k => by rw [y_X1_compareWholes]) ?_
  refine Tm_ite (fun _ => b1 _ rfl rfl) (fun c => ?_)
  rw [u_neg] at c
  refine Tm_chk (in_g h hx (by omega)) ?_
  exact Tm_ite (fun _ => b1 _ rfl rfl) (fun _ => b2 _ rfl rfl)
theorem cs_loop (h : HQ g l t σ) (hx : Gv g x) (hy : Gv g y) (kx : uN x < 2147483648 → hdK (uN (σ.2.2.1 3 (uN x))) = 4) (ky : uN y < 2147483648 → hdK (uN (σ.2.2.1 3 (uN y))) = 4) : ∀ (n : Nat) (L : LV), L.1 1 = x → L.1 2 = y → uN (L.1 3) < 4096 → uN (L.1 4) < 4096 → (uN x < 2147483648 → uN (L.1 3) = hdL (uN (σ.2.2.1 3 (uN x)))) → (uN y < 2147483648 → uN (L.1 4) = hdL (uN (σ.2.2.1 3 (uN y)))) → uN (L.1 5) + n = 4096 → Tm (fun k => y_X1_compareStrings k 5 L σ) (Qs σ) := by
  have e10 : ∀ L : LV, Tm (fun k => y_X1_compareStrings k 10 L σ) (Qs σ) := by
    intro L
    refine Tm_suc (fun k => by rw [y_X1_compareStrings]) ?_
    exact Tm_some rfl
  have e6 : ∀ L : LV, Tm (fun k => y_X1_compareStrings k 6 L σ) (Qs σ) := by
    intro L
    refine Tm_suc (fun k => by rw [y_X1_compareStrings]) ?_
    refine Tm_ite (fun _ => e10 _) (fun _ => ?_)
    refine Tm_suc (fun k => by rw [y_X1_compareStrings]) ?_
    refine Tm_ite (fun _ => ?_) (fun _ => e10 _)
    refine Tm_suc (fun k => by rw [y_X1_compareStrings]) ?_
    exact e10 _
  intro n
  induction n with
  | zero =>
    intro L d1 d2 d3 d4 l3 l4 d5
    refine Tm_suc (fun k => by rw [y_X1_compareStrings]) ?_
    refine Tm_yes ?_ (e6 _)
    rw [u_le (by omega) (by omega)]
    omega
  | succ m ih =>
    intro L d1 d2 d3 d4 l3 l4 d5
    refine Tm_suc (fun k => by rw [y_X1_compareStrings]) ?_
    refine Tm_ite (fun _ => e6 _) (fun c3 => ?_)
    rw [u_le (by omega) (by omega)] at c3
    refine Tm_ite (fun _ => e6 _) (fun c4 => ?_)
    rw [u_le (by omega) (by omega)] at c4
    have b12 : ∀ L' : LV, L'.1 1 = x → L'.1 2 = y → L'.1 3 = L.1 3 → L'.1 4 = L.1 4 → L'.1 5 = L.1 5 → Tm (fun k => y_X1_compareStrings k 12 L' σ) (Qs σ) := by
      intro L' a1 a2 a3 a4 a5
      refine Tm_suc (fun k => by rw [y_X1_compareStrings]) ?_
      refine Tm_ite (fun _ => ?_) (fun _ => Tm_ite (fun _ => ?_) (fun _ => ?_))
      · refine Tm_suc (fun k => by rw [y_X1_compareStrings]) ?_
        refine ih _ ?_ ?_ ?_ ?_ ?_ ?_ ?_
        · exact a1
        · exact a2
        · show uN (L'.1 3) < _; rw [a3]; exact d3
        · show uN (L'.1 4) < _; rw [a4]; exact d4
        · intro z; show uN (L'.1 3) = _; rw [a3]; exact l3 z
        · intro z; show uN (L'.1 4) = _; rw [a4]; exact l4 z
        · show uN (L'.1 5 + 1) + m = 4096
          rw [a5, u_inc (by omega)]; omega
      · refine Tm_suc (fun k => by rw [y_X1_compareStrings]) ?_
        refine Tm_suc (fun k => by rw [y_X1_compareStrings]) ?_
        exact Tm_some rfl
      · refine Tm_suc (fun k => by rw [y_X1_compareStrings]) ?_
        exact Tm_some rfl
    have b8 : ∀ L' : LV, L'.1 1 = x → L'.1 2 = y → L'.1 3 = L.1 3 → L'.1 4 = L.1 4 → L'.1 5 = L.1 5 → Tm (fun k => y_X1_compareStrings k 8 L' σ) (Qs σ) := by
      intro L' a1 a2 a3 a4 a5
      refine Tm_suc (fun k => by rw [y_X1_compareStrings]) ?_
      refine Tm_ite (fun c => ?_) (fun _ => ?_)
      · rw [u_nn, a2] at c
        refine Tm_suc (fun k => by rw [y_X1_compareStrings]) ?_
        refine Tm_chk (by
          show ¬ (L'.1 2 + 1 + (L'.1 5 >>> ((2 : Int32) &&& 31)) < 0 ∨ sN σ 3 ≤ (L'.1 2 + 1 + (L'.1 5 >>> ((2 : Int32) &&& 31))).toNatClampNeg)
          rw [a2, a5]
          exact in_gs (i := L.1 5) h hy c (ky c) (by rw [← l4 c]; omega)) ?_
        refine b12 _ ?_ ?_ ?_ ?_ ?_
        · exact a1
        · exact a2
        · exact a3
        · exact a4
        · exact a5
      · refine b12 _ ?_ ?_ ?_ ?_ ?_
        · exact a1
        · exact a2
        · exact a3
        · exact a4
        · exact a5
    refine Tm_ite (fun c => ?_) (fun _ => b8 _ d1 d2 rfl rfl rfl)
    rw [u_nn, d1] at c
    refine Tm_suc (fun k => by rw [y_X1_compareStrings]) ?_
    refine Tm_chk (by
      rw [d1]
      exact in_gs (i := L.1 5) h hx c (kx c) (by rw [← l3 c]; omega)) ?_
    exact b8 _ d1 d2 rfl rfl rfl
theorem c_compareStrings (h : HQ g l t σ) (hx : Gv g (L.1 1)) (hy : Gv g (L.1 2)) (kx : uN (L.1 1) < 2147483648 → hdK (uN (σ.2.2.1 3 (uN (L.1 1)))) = 4) (ky : uN (L.1 2) < 2147483648 → hdK (uN (σ.2.2.1 3 (uN (L.1 2)))) = 4) : Tm (fun k => y_X1_compareStrings k 0 L σ) (Qs σ) := by
  have b2 : ∀ L' : LV, L'.1 1 = L.1 1 → L'.1 2 = L.1 2 → uN (L'.1 100) < 4096 → (uN (L.1 1) < 2147483648 → uN (L'.1 100) = hdL (uN (σ.2.2.1 3 (uN (L.1 1))))) → Tm (fun k => y_X1_compareStrings k 2 L' σ) (Qs σ) := by
    intro L' a1 a2 q q1
    have b4 : ∀ L2 : LV, L2.1 1 = L.1 1 → L2.1 2 = L.1 2 → L2.1 3 = L'.1 100 → uN (L2.1 100) < 4096 → (uN (L.1 2) < 2147483648 → uN (L2.1 100) = hdL (uN (σ.2.2.1 3 (uN (L.1 2))))) → Tm (fun k => y_X1_compareStrings k 4 L2 σ) (Qs σ) := by
      intro L2 z1 z2 z3 w w1
      refine Tm_suc (fun k => by rw [y_X1_compareStrings]) ?_
      refine cs_loop h hx hy kx ky 4096 _ ?_ ?_ ?_ ?_ ?_ ?_ ?_
      · exact z1
      · exact z2
      · show uN (L2.1 3) < _; rw [z3]; exact q
      · exact w
      · intro z; show uN (L2.1 3) = _; rw [z3]; exact q1 z
      · exact w1
      · rfl
    refine Tm_suc (fun k => by rw [y_X1_compareStrings]) ?_
    refine Tm_ite (fun c => ?_) (fun c => ?_)
    · rw [u_nn, a2] at c
      refine Tm_suc (fun k => by rw [y_X1_compareStrings]) ?_
      refine Tm_chk (by show ¬ (L'.1 2 < 0 ∨ sN σ 3 ≤ (L'.1 2).toNatClampNeg); rw [a2]; exact in_g h hy c) ?_
      have e : ((((σ.2.2.1 3 (L'.1 2).toNatClampNeg).toUInt32 >>> ((4 : Int32).toUInt32 &&& Int32.toUInt32 31)).toInt32) &&& 4095) = nI (hdL (uN (σ.2.2.1 3 (uN (L.1 2))))) := by rw [e_len, a2, u_cl c]
      have ly : hdL (uN (σ.2.2.1 3 (uN (L.1 2)))) < 4096 := Nat.mod_lt _ (by decide)
      refine b4 _ ?_ ?_ ?_ ?_ ?_
      · exact a1
      · exact a2
      · rfl
      · show uN ((((σ.2.2.1 3 (L'.1 2).toNatClampNeg).toUInt32 >>> ((4 : Int32).toUInt32 &&& Int32.toUInt32 31)).toInt32) &&& 4095) < _
        rw [e, u_n (by omega)]; exact ly
      · intro z
        show uN ((((σ.2.2.1 3 (L'.1 2).toNatClampNeg).toUInt32 >>> ((4 : Int32).toUInt32 &&& Int32.toUInt32 31)).toInt32) &&& 4095) = _
        rw [e, u_n (by omega)]
    · rw [u_nn, a2] at c
      refine b4 _ ?_ ?_ ?_ ?_ ?_
      · exact a1
      · exact a2
      · rfl
      · show uN 1 < 4096; decide
      · intro z; exact absurd z c
  refine Tm_suc (fun k => by rw [y_X1_compareStrings]) ?_
  refine Tm_ite (fun c => ?_) (fun c => ?_)
  · rw [u_nn] at c
    refine Tm_suc (fun k => by rw [y_X1_compareStrings]) ?_
    refine Tm_chk (in_g h hx c) ?_
    have lx : hdL (uN (σ.2.2.1 3 (uN (L.1 1)))) < 4096 := Nat.mod_lt _ (by decide)
    rw [e_len, u_cl c]
    refine b2 _ rfl rfl ?_ ?_
    · show uN (nI _) < _
      rw [u_n (by omega)]; exact lx
    · intro _
      exact u_n (by omega)
  · rw [u_nn] at c
    refine b2 _ rfl rfl ?_ ?_
    · show uN 1 < 4096; decide
    · intro z; exact absurd z c
end CRF
