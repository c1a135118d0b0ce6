/-! The class: rows are marked and moved. -/
section CSM
variable {g g' g2 : Nat → Prop} {l l' l2 : List Nat} {t t' t2 : Nat} {σ σ' σ2 : CS} {L : LV} {x y i : Int32} {M M' U U' : Nat → Int32}
theorem MkU_t (a : MkU g l σ U) (b : MkU g l (uF σ 1 U) U') : MkU g l σ U' := by
  refine ⟨b.1, fun p hp => b.2.1 p (a.2.1 p hp), fun q q1 q2 => ?_⟩
  rcases b.2.2 q q1 q2 with z | z
  · rcases a.2.2 q q1 z with v | v
    · exact Or.inl v
    · exact Or.inr (ClU_m b.2.1 v)
  · exact Or.inr z
/-- a value is marked -/
def MkV (U : Nat → Int32) (x : Int32) : Prop := 3 ≤ uN x → uN x < 2147483648 → bI U (uN x) = 1
theorem lt_3 {x : Int32} : (x < 3) ↔ ¬ (3 ≤ uN x ∧ uN x < 2147483648) := by
  rw [i_lt, u_int x, u_int 3, if_pos (show uN 3 < 2147483648 by decide)]
  have e : (uN (3 : Int32) : Int) = 3 := rfl
  have := u_lt x
  rw [e]
  split <;> omega
theorem c_fill1 (hN : sN σ 1 ≤ 5000) (h1 : L.1 1 = 0) : Tm (fun k => y_J7_fill_53178__z1 k 0 L σ) (fun r => ∃ U, r.2 = uF σ 1 U ∧ ∀ j, j < sN σ 1 → U j = 0) := by
  have b1 : ∀ (m : Nat) (L' : LV) (U : Nat → Int32), uN (L'.1 2) + m = sN σ 1 → L'.1 3 = nI (sN σ 1) → L'.1 1 = 0 → (∀ j, j < uN (L'.1 2) → U j = 0) → Tm (fun k => y_J7_fill_53178__z1 k 1 L' (uF σ 1 U)) (fun r => ∃ U, r.2 = uF σ 1 U ∧ ∀ j, j < sN σ 1 → U j = 0) := by
    intro m
    induction m with
    | zero =>
      intro L' U a2 a3 a1 hU
      have e3 : uN (L'.1 3) = sN σ 1 := by rw [a3, u_n (by omega)]
      refine Tm_suc (fun k => by rw [y_J7_fill_53178__z1]) ?_
      refine Tm_yes (by rw [u_le (by omega) (by omega)]; omega) ?_
      refine Tm_suc (fun k => by rw [y_J7_fill_53178__z1]) ?_
      exact Tm_some ⟨U, rfl, fun j hj => hU j (by omega)⟩
    | succ m ih =>
      intro L' U a2 a3 a1 hU
      have e3 : uN (L'.1 3) = sN σ 1 := by rw [a3, u_n (by omega)]
      refine Tm_suc (fun k => by rw [y_J7_fill_53178__z1]) ?_
      refine Tm_no (by rw [u_le (by omega) (by omega)]; omega) ?_
      refine Tm_chk (u_in (by show _ < sN σ 1; omega) (by show sN σ 1 ≤ _; omega)) ?_
      rw [uF_a]
      refine ih _ _ ?_ a3 a1 ?_
      · show uN (L'.1 2 + 1) + m = _
        rw [u_inc (by omega)]; omega
      · show ∀ j, j < uN (L'.1 2 + 1) → upd U (L'.1 2).toNatClampNeg (L'.1 1) j = 0
        rw [u_inc (by omega), u_cl (by omega)]
        intro j hj
        by_cases c : j = uN (L'.1 2)
        · rw [c, upd_same, a1]
        · rw [upd_other c]
          exact hU j (by omega)
  refine Tm_suc (fun k => by rw [y_J7_fill_53178__z1]) ?_
  have e := uF_id σ 1
  have z := b1 (sN σ 1) (lI (lI L 2 0) 3 (Int32.ofNat (sN σ 1))) (σ.2.2.1 1) (by show 0 + _ = _; omega) rfl h1 (fun j hj => absurd hj (Nat.not_lt_zero j))
  rw [e] at z
  exact z
theorem c_beginMarking (h : HQ g l t σ) : Tm (fun k => y_X1_beginMarking k 0 L σ) (fun r => ∃ U, r.2 = uF σ 1 U ∧ BI g l (σ.2.2.1 3) U ∧ ∀ q, q ∈ l → bI U q = 0) := by
  have a := in_u h (p := 0) (by have := h.2.1; omega)
  refine Tm_suc (fun k => by rw [y_X1_beginMarking]) ?_
  refine Tm_oc (c_fill1 a.2.2.1 rfl) (fun r q => ?_)
  obtain ⟨U, e, hU⟩ := q
  rw [e]
  refine Tm_chk (u_in (by show _ < sN σ 1; show 0 < _; omega) (by show sN σ 1 ≤ _; omega)) ?_
  rw [uF_a]
  have b0 : ∀ p, p < 32 → bI (upd U (0 : Int32).toNatClampNeg 7) p = if p < 3 then 1 else 0 := by
    intro p hp
    unfold bI
    rw [show p / 32 = (0 : Int32).toNatClampNeg from by show p / 32 = 0; omega, upd_same, show p % 32 = p from by omega]
    have z : ∀ p, p < 32 → uN 7 / 2 ^ p % 2 = if p < 3 then 1 else 0 := by decide +kernel
    exact z p hp
  have b1 : ∀ p, 3 ≤ p → p < t → bI (upd U (0 : Int32).toNatClampNeg 7) p = 0 := by
    intro p h3 ht
    rcases Nat.lt_or_ge p 32 with c | c
    · rw [b0 p c, if_neg (by omega)]
    · unfold bI
      rw [upd_other (by show ¬ p / 32 = 0; omega), hU _ (in_u h ht).1]
      show 0 / 2 ^ (p % 32) % 2 = 0
      rw [Nat.zero_div]
  have tl := TlC_ge l 3 h.2.2.2.2.2.1
  have bq : ∀ q, q ∈ l → ∀ j, j ≤ hdW (uN (σ.2.2.1 3 q)) → bI (upd U (0 : Int32).toNatClampNeg 7) (q + j) = 0 := by
    intro q hq j hj
    have z := tl q hq
    exact b1 _ (by omega) (by omega)
  refine Tm_some ⟨_, rfl, ⟨?_, ?_, ?_, ?_, ?_⟩, ?_⟩
  · intro q hq j hj
    rw [bq q hq j hj]
    exact (bq q hq 0 (by omega)).symm
  · intro q hq h1
    rw [show bI (upd U (0 : Int32).toNatClampNeg 7) q = 0 from bq q hq 0 (by omega)] at h1
    exact absurd h1 (by decide)
  · exact b0 0 (by decide)
  · exact b0 1 (by decide)
  · exact b0 2 (by decide)
  · intro q hq
    exact bq q hq 0 (by omega)
/-- before each word: how many -/
def BfU (n : Nat) (U B : Nat → Int32) : Prop := ∀ i, i < n → uN (B i) = ctB U (32 * i)
theorem c_endMarking (h1 : sN σ 1 ≤ 5000) (h2 : sN σ 2 = sN σ 1) : Tm (fun k => y_X1_endMarking k 0 L σ) (fun r => ∃ B, r.2 = uF σ 2 B ∧ BfU (sN σ 1) (σ.2.2.1 1) B) := by
  have b1 : ∀ (m : Nat) (L' : LV) (B : Nat → Int32), uN (L'.1 2) + m = sN σ 1 → uN (L'.1 1) = ctB (σ.2.2.1 1) (32 * uN (L'.1 2)) → BfU (uN (L'.1 2)) (σ.2.2.1 1) B → Tm (fun k => y_X1_endMarking k 1 L' (uF σ 2 B)) (fun r => ∃ B, r.2 = uF σ 2 B ∧ BfU (sN σ 1) (σ.2.2.1 1) B) := by
    intro m
    induction m with
    | zero =>
      intro L' B a2 a1 hB
      refine Tm_suc (fun k => by rw [y_X1_endMarking]) ?_
      refine Tm_yes (by show nI (sN σ 1) ≤ _; rw [u_le (by rw [u_n (by omega)]; omega) (by omega), u_n (by omega)]; omega) ?_
      refine Tm_suc (fun k => by rw [y_X1_endMarking]) ?_
      exact Tm_some ⟨B, rfl, fun j hj => hB j (by omega)⟩
    | succ m ih =>
      intro L' B a2 a1 hB
      have cl := ct_le (σ.2.2.1 1) (32 * uN (L'.1 2))
      refine Tm_suc (fun k => by rw [y_X1_endMarking]) ?_
      refine Tm_no (by show ¬ nI (sN σ 1) ≤ _; rw [u_le (by rw [u_n (by omega)]; omega) (by omega), u_n (by omega)]; omega) ?_
      refine Tm_chk (u_in (by show _ < sN σ 2; omega) (by show sN σ 2 ≤ _; omega)) ?_
      refine Tm_chk (u_in (by show _ < sN σ 1; omega) (by show sN σ 1 ≤ _; omega)) ?_
      rw [uF_a]
      refine Tm_ocE c_bitCount ?_
      have pl := pcn_le (uN (σ.2.2.1 1 (L'.1 2).toNatClampNeg)) 32
      refine ih _ _ ?_ ?_ ?_
      · show uN (L'.1 2 + 1) + m = _
        rw [u_inc (by omega)]; omega
      · show uN (L'.1 1 + nI (pcn (uN (σ.2.2.1 1 (L'.1 2).toNatClampNeg)) 32)) = ctB (σ.2.2.1 1) (32 * uN (L'.1 2 + 1))
        have z := ct_w (σ.2.2.1 1) (uN (L'.1 2)) 32 (Nat.le_refl _)
        rw [u_inc (by omega), show 32 * (uN (L'.1 2) + 1) = 32 * uN (L'.1 2) + 32 from by omega, z, ← u_cl (x := L'.1 2) (by omega), u_add (by rw [u_n (by omega), a1]; omega), u_n (by omega), a1, u_cl (by omega)]
      · show BfU (uN (L'.1 2 + 1)) (σ.2.2.1 1) (upd B (L'.1 2).toNatClampNeg (L'.1 1))
        rw [u_inc (by omega), u_cl (by omega)]
        intro j hj
        by_cases c : j = uN (L'.1 2)
        · rw [c, upd_same, a1]
        · rw [upd_other c]
          exact hB j (by omega)
  refine Tm_suc (fun k => by rw [y_X1_endMarking]) ?_
  have e := uF_id σ 2
  have z := b1 (sN σ 1) (lI (lI L 1 0) 2 0) (σ.2.2.1 2) (by show 0 + _ = _; omega) rfl (fun j hj => absurd hj (Nat.not_lt_zero j))
  rw [e] at z
  exact z
theorem c_placeOfP (hB : BfU (sN σ 1) (σ.2.2.1 1) (σ.2.2.1 2)) (n1 : sN σ 1 ≤ 5000) (n2 : sN σ 2 = sN σ 1) (hx : uN (L.1 1) / 32 < sN σ 1) : Tm (fun k => y_X1_placeOf k 0 L σ) (fun r => r = (nI (ctB (σ.2.2.1 1) (uN (L.1 1))), σ)) := by
  have e := u_sar5 (x := L.1 1) (by omega)
  refine Tm_suc (fun k => by rw [y_X1_placeOf]) ?_
  refine Tm_chk (u_in (by omega) (by omega)) ?_
  refine Tm_chk (u_in (by omega) (by omega)) ?_
  refine Tm_ocE c_bitCount ?_
  refine Tm_some (Prod.ext ?_ rfl)
  show σ.2.2.1 2 (L.1 1 >>> ((5 : Int32) &&& 31)).toNatClampNeg + nI (pcn (uN (σ.2.2.1 1 (L.1 1 >>> ((5 : Int32) &&& 31)).toNatClampNeg &&& (((1 : Int32) <<< ((L.1 1 &&& 31) &&& 31)) - 1))) 32) = nI (ctB (σ.2.2.1 1) (uN (L.1 1)))
  rw [u_cl (by omega), e]
  have s1 : uN (((1 : Int32) <<< ((L.1 1 &&& 31) &&& 31)) - 1) = 2 ^ (uN (L.1 1) % 32) - 1 := by
    have u1 : uN (1 : Int32) = 1 := rfl
    rw [u_and5 (L.1 1), u_sub (by rw [sh_1 _ (by omega), u1]; exact Nat.one_le_two_pow), sh_1 _ (by omega), u1]
  have s2 : pcn (uN (σ.2.2.1 1 (uN (L.1 1) / 32) &&& (((1 : Int32) <<< ((L.1 1 &&& 31) &&& 31)) - 1))) 32 = pcn (uN (σ.2.2.1 1 (uN (L.1 1) / 32))) (uN (L.1 1) % 32) := by
    rw [u_and, s1, Nat.and_two_pow_sub_one_eq_mod]
    have z := pcn_z (uN (L.1 1) % 32) (uN (σ.2.2.1 1 (uN (L.1 1) / 32)) % 2 ^ (uN (L.1 1) % 32)) (Nat.mod_lt _ Nat.one_le_two_pow) (32 - uN (L.1 1) % 32)
    rw [show uN (L.1 1) % 32 + (32 - uN (L.1 1) % 32) = 32 from by omega] at z
    rw [z]
    exact pcn_mod _ _ _ (Nat.le_refl _)
  have w := ct_w (σ.2.2.1 1) (uN (L.1 1) / 32) (uN (L.1 1) % 32) (by omega)
  rw [show 32 * (uN (L.1 1) / 32) + uN (L.1 1) % 32 = uN (L.1 1) from by omega] at w
  have q := hB (uN (L.1 1) / 32) hx
  have cl := ct_le (σ.2.2.1 1) (32 * (uN (L.1 1) / 32))
  have pl := pcn_le (uN (σ.2.2.1 1 (uN (L.1 1) / 32))) (uN (L.1 1) % 32)
  rw [s2, w, u_of (σ.2.2.1 2 (uN (L.1 1) / 32) + _)]
  congr 1
  rw [u_add (by rw [q, u_n (by omega)]; omega), q, u_n (by omega)]
theorem c_placeOfH (h : HQ g l t σ) (hB : BfU (sN σ 1) (σ.2.2.1 1) (σ.2.2.1 2)) (hx : uN (L.1 1) < t) : Tm (fun k => y_X1_placeOf k 0 L σ) (fun r => r = (nI (ctB (σ.2.2.1 1) (uN (L.1 1))), σ)) := by
  have a := in_u h hx
  refine c_placeOfP hB a.2.2.1 ?_ a.1
  rcases h.2.2.1 with z | z <;> omega
/-- a value's new handle -/
def rnm (U : Nat → Int32) (x : Int32) : Int32 := if 3 ≤ uN x ∧ uN x < 2147483648 then nI (ctB U (uN x)) else x
theorem c_markRow20 (h : HQ g l t σ) (hb : BI g l (σ.2.2.1 3) (σ.2.2.1 1)) (hN : sN σ 20 ≤ 1000000000) (hn : uN (L.1 2) ≤ sN σ 20) (hv : ∀ j, j < uN (L.1 2) → Gw g (σ.2.2.1 20 j)) : Tm (fun k => y_X1_markRow__z20 k 0 L σ) (fun r => ∃ U', r.2 = uF σ 1 U' ∧ MkU g l σ U' ∧ ∀ j, j < uN (L.1 2) → MkV U' (σ.2.2.1 20 j)) := by
  have b1 : ∀ (m : Nat) (L' : LV) (U : Nat → Int32), uN (L'.1 3) + m = uN (L.1 2) → L'.1 2 = L.1 2 → MkU g l σ U → (∀ j, j < uN (L'.1 3) → MkV U (σ.2.2.1 20 j)) → Tm (fun k => y_X1_markRow__z20 k 1 L' (uF σ 1 U)) (fun r => ∃ U', r.2 = uF σ 1 U' ∧ MkU g l σ U' ∧ ∀ j, j < uN (L.1 2) → MkV U' (σ.2.2.1 20 j)) := by
    intro m
    induction m with
    | zero =>
      intro L' U a3 a2 hU hj
      refine Tm_suc (fun k => by rw [y_X1_markRow__z20]) ?_
      refine Tm_yes (by rw [a2, u_le (by omega) (by omega)]; omega) ?_
      refine Tm_suc (fun k => by rw [y_X1_markRow__z20]) ?_
      exact Tm_some ⟨U, rfl, hU, fun j q => hj j (by omega)⟩
    | succ m ih =>
      intro L' U a3 a2 hU hj
      have b3 : ∀ U2 : Nat → Int32, MkU g l σ U2 → (∀ j, j < uN (L'.1 3) → MkV U2 (σ.2.2.1 20 j)) → MkV U2 (σ.2.2.1 20 (uN (L'.1 3))) → Tm (fun k => y_X1_markRow__z20 k 3 L' (uF σ 1 U2)) (fun r => ∃ U', r.2 = uF σ 1 U' ∧ MkU g l σ U' ∧ ∀ j, j < uN (L.1 2) → MkV U' (σ.2.2.1 20 j)) := by
        intro U2 z1 z2 z3
        refine Tm_suc (fun k => by rw [y_X1_markRow__z20]) ?_
        refine ih _ U2 ?_ a2 z1 ?_
        · show uN (L'.1 3 + 1) + m = _
          rw [u_inc (by omega)]; omega
        · show ∀ j, j < uN (L'.1 3 + 1) → MkV U2 (σ.2.2.1 20 j)
          rw [u_inc (by omega)]
          intro j q
          rcases Nat.lt_or_ge j (uN (L'.1 3)) with c | c
          · exact z2 j c
          · rw [show j = uN (L'.1 3) from by omega]
            exact z3
      have i3 : ¬ (L'.1 3 < 0 ∨ sN σ 20 ≤ (L'.1 3).toNatClampNeg) := u_in (by omega) (by omega)
      have gv := hv (uN (L'.1 3)) (by omega)
      refine Tm_suc (fun k => by rw [y_X1_markRow__z20]) ?_
      refine Tm_no (by rw [a2, u_le (by omega) (by omega)]; omega) ?_
      refine Tm_chk i3 ?_
      refine Tm_ite (fun c => ?_) (fun c => ?_)
      · refine b3 U hU hj ?_
        have c' : σ.2.2.1 20 (L'.1 3).toNatClampNeg < 3 := c
        rw [u_cl (by omega), lt_3] at c'
        exact fun p q => absurd ⟨p, q⟩ c'
      · have c' : ¬ σ.2.2.1 20 (L'.1 3).toNatClampNeg < 3 := c
        rw [u_cl (by omega), lt_3] at c'
        have c2 := Classical.not_not.1 c'
        refine Tm_chk i3 ?_
        refine Tm_oc (c_markCell (HQ_f h (k := 1) (by decide) U) hU.1 ?_ ?_ ?_) (fun r q => ?_)
        · show g (uN (σ.2.2.1 20 (L'.1 3).toNatClampNeg))
          rw [u_cl (by omega)]
          exact (Gw_c gv c2.2).2
        · show 3 ≤ uN (σ.2.2.1 20 (L'.1 3).toNatClampNeg)
          rw [u_cl (by omega)]
          exact c2.1
        · show uN (σ.2.2.1 20 (L'.1 3).toNatClampNeg) < _
          rw [u_cl (by omega)]
          exact c2.2
        · obtain ⟨U2, e, m2, q2⟩ := q
          rw [e, uF_f]
          have q3 : bI U2 (uN (σ.2.2.1 20 (L'.1 3).toNatClampNeg)) = 1 := q2
          rw [u_cl (by omega)] at q3
          exact b3 U2 (MkU_t hU m2) (fun j hj2 p q => m2.2.1 _ (hj j hj2 p q)) (fun _ _ => q3)
  refine Tm_suc (fun k => by rw [y_X1_markRow__z20]) ?_
  have e := uF_id σ 1
  have z := b1 (uN (L.1 2)) (lI L 3 0) (σ.2.2.1 1) (by show 0 + _ = _; omega) rfl ⟨hb, fun _ z => z, fun q _ z => Or.inl z⟩ (fun j hj => absurd hj (Nat.not_lt_zero j))
  rw [e] at z
  exact z
theorem c_moveRow20 (h : HQ g l t σ) (hB : BfU (sN σ 1) (σ.2.2.1 1) (σ.2.2.1 2)) (hN : sN σ 20 ≤ 1000000000) (hn : uN (L.1 2) ≤ sN σ 20) (hv : ∀ j, j < uN (L.1 2) → Gw g (σ.2.2.1 20 j)) : Tm (fun k => y_X1_moveRow__z20 k 0 L σ) (fun r => ∃ f, r.2 = uF σ 20 f ∧ (∀ j, j < uN (L.1 2) → f j = rnm (σ.2.2.1 1) (σ.2.2.1 20 j)) ∧ ∀ j, uN (L.1 2) ≤ j → f j = σ.2.2.1 20 j) := by
  have b1 : ∀ (m : Nat) (L' : LV) (f : Nat → Int32), uN (L'.1 3) + m = uN (L.1 2) → L'.1 2 = L.1 2 → (∀ j, j < uN (L'.1 3) → f j = rnm (σ.2.2.1 1) (σ.2.2.1 20 j)) → (∀ j, uN (L'.1 3) ≤ j → f j = σ.2.2.1 20 j) → Tm (fun k => y_X1_moveRow__z20 k 1 L' (uF σ 20 f)) (fun r => ∃ f, r.2 = uF σ 20 f ∧ (∀ j, j < uN (L.1 2) → f j = rnm (σ.2.2.1 1) (σ.2.2.1 20 j)) ∧ ∀ j, uN (L.1 2) ≤ j → f j = σ.2.2.1 20 j) := by
    intro m
    induction m with
    | zero =>
      intro L' f a3 a2 h1 h2
      refine Tm_suc (fun k => by rw [y_X1_moveRow__z20]) ?_
      refine Tm_yes (by rw [a2, u_le (by omega) (by omega)]; omega) ?_
      refine Tm_suc (fun k => by rw [y_X1_moveRow__z20]) ?_
      exact Tm_some ⟨f, rfl, fun j q => h1 j (by omega), fun j q => h2 j (by omega)⟩
    | succ m ih =>
      intro L' f a3 a2 h1 h2
      have b3 : ∀ f2 : Nat → Int32, (∀ j, j < uN (L'.1 3) + 1 → f2 j = rnm (σ.2.2.1 1) (σ.2.2.1 20 j)) → (∀ j, uN (L'.1 3) + 1 ≤ j → f2 j = σ.2.2.1 20 j) → Tm (fun k => y_X1_moveRow__z20 k 3 L' (uF σ 20 f2)) (fun r => ∃ f, r.2 = uF σ 20 f ∧ (∀ j, j < uN (L.1 2) → f j = rnm (σ.2.2.1 1) (σ.2.2.1 20 j)) ∧ ∀ j, uN (L.1 2) ≤ j → f j = σ.2.2.1 20 j) := by
        intro f2 z1 z2
        refine Tm_suc (fun k => by rw [y_X1_moveRow__z20]) ?_
        refine ih _ f2 ?_ a2 ?_ ?_
        · show uN (L'.1 3 + 1) + m = _
          rw [u_inc (by omega)]; omega
        · show ∀ j, j < uN (L'.1 3 + 1) → _
          rw [u_inc (by omega)]
          exact z1
        · show ∀ j, uN (L'.1 3 + 1) ≤ j → _
          rw [u_inc (by omega)]
          exact z2
      have i3 : ¬ (L'.1 3 < 0 ∨ sN σ 20 ≤ (L'.1 3).toNatClampNeg) := u_in (by omega) (by omega)
      have gv := hv (uN (L'.1 3)) (by omega)
      have ef : (uF σ 20 f).2.2.1 20 (L'.1 3).toNatClampNeg = σ.2.2.1 20 (uN (L'.1 3)) := by
        show f (L'.1 3).toNatClampNeg = _
        rw [u_cl (by omega)]
        exact h2 _ (Nat.le_refl _)
      refine Tm_suc (fun k => by rw [y_X1_moveRow__z20]) ?_
      refine Tm_no (by rw [a2, u_le (by omega) (by omega)]; omega) ?_
      refine Tm_chk i3 ?_
      rw [ef]
      refine Tm_ite (fun c => ?_) (fun c => ?_)
      · rw [lt_3] at c
        refine b3 f ?_ (fun j hj => h2 j (by omega))
        intro j hj
        rcases Nat.lt_or_ge j (uN (L'.1 3)) with d | d
        · exact h1 j d
        · have ej : j = uN (L'.1 3) := by omega
          rw [h2 j d, ej]
          exact (if_neg c).symm
      · rw [lt_3] at c
        have c2 := Classical.not_not.1 c
        refine Tm_chk i3 ?_
        have gc := HQ_c h (Gw_c gv c2.2).2
        refine Tm_ocE (c_placeOfH (HQ_f h (k := 20) (by decide) f) hB gc.1) ?_
        refine Tm_chk i3 ?_
        rw [uF_a]
        refine b3 _ ?_ ?_
        · intro j hj
          show upd f (L'.1 3).toNatClampNeg (nI (ctB (σ.2.2.1 1) (uN (σ.2.2.1 20 (uN (L'.1 3)))))) j = _
          rw [u_cl (by omega)]
          by_cases d : j = uN (L'.1 3)
          · rw [d, upd_same]
            exact (if_pos c2).symm
          · rw [upd_other d]
            exact h1 j (by omega)
        · intro j hj
          show upd f (L'.1 3).toNatClampNeg _ j = _
          rw [u_cl (by omega), upd_other (by omega)]
          exact h2 j (by omega)
  refine Tm_suc (fun k => by rw [y_X1_moveRow__z20]) ?_
  have e := uF_id σ 20
  have z := b1 (uN (L.1 2)) (lI L 3 0) (σ.2.2.1 20) (by show 0 + _ = _; omega) rfl (fun j hj => absurd hj (Nat.not_lt_zero j)) (fun _ _ => rfl)
  rw [e] at z
  exact z
theorem c_markRow23 (h : HQ g l t σ) (hb : BI g l (σ.2.2.1 3) (σ.2.2.1 1)) (hN : 3780 ≤ 1000000000) (hn : uN (L.1 2) ≤ 3780) (hv : ∀ j, j < uN (L.1 2) → Gw g (σ.2.2.1 23 j)) : Tm (fun k => y_X1_markRow__a23 k 0 L σ) (fun r => ∃ U', r.2 = uF σ 1 U' ∧ MkU g l σ U' ∧ ∀ j, j < uN (L.1 2) → MkV U' (σ.2.2.1 23 j)) := by
  have b1 : ∀ (m : Nat) (L' : LV) (U : Nat → Int32), uN (L'.1 3) + m = uN (L.1 2) → L'.1 2 = L.1 2 → MkU g l σ U → (∀ j, j < uN (L'.1 3) → MkV U (σ.2.2.1 23 j)) → Tm (fun k => y_X1_markRow__a23 k 1 L' (uF σ 1 U)) (fun r => ∃ U', r.2 = uF σ 1 U' ∧ MkU g l σ U' ∧ ∀ j, j < uN (L.1 2) → MkV U' (σ.2.2.1 23 j)) := by
    intro m
    induction m with
    | zero =>
      intro L' U a3 a2 hU hj
      refine Tm_suc (fun k => by rw [y_X1_markRow__a23]) ?_
      refine Tm_yes (by rw [a2, u_le (by omega) (by omega)]; omega) ?_
      refine Tm_suc (fun k => by rw [y_X1_markRow__a23]) ?_
      exact Tm_some ⟨U, rfl, hU, fun j q => hj j (by omega)⟩
    | succ m ih =>
      intro L' U a3 a2 hU hj
      have b3 : ∀ U2 : Nat → Int32, MkU g l σ U2 → (∀ j, j < uN (L'.1 3) → MkV U2 (σ.2.2.1 23 j)) → MkV U2 (σ.2.2.1 23 (uN (L'.1 3))) → Tm (fun k => y_X1_markRow__a23 k 3 L' (uF σ 1 U2)) (fun r => ∃ U', r.2 = uF σ 1 U' ∧ MkU g l σ U' ∧ ∀ j, j < uN (L.1 2) → MkV U' (σ.2.2.1 23 j)) := by
        intro U2 z1 z2 z3
        refine Tm_suc (fun k => by rw [y_X1_markRow__a23]) ?_
        refine ih _ U2 ?_ a2 z1 ?_
        · show uN (L'.1 3 + 1) + m = _
          rw [u_inc (by omega)]; omega
        · show ∀ j, j < uN (L'.1 3 + 1) → MkV U2 (σ.2.2.1 23 j)
          rw [u_inc (by omega)]
          intro j q
          rcases Nat.lt_or_ge j (uN (L'.1 3)) with c | c
          · exact z2 j c
          · rw [show j = uN (L'.1 3) from by omega]
            exact z3
      have i3 : ¬ (L'.1 3 < 0 ∨ 3780 ≤ (L'.1 3).toNatClampNeg) := u_in (by omega) (by omega)
      have gv := hv (uN (L'.1 3)) (by omega)
      refine Tm_suc (fun k => by rw [y_X1_markRow__a23]) ?_
      refine Tm_no (by rw [a2, u_le (by omega) (by omega)]; omega) ?_
      refine Tm_chk i3 ?_
      refine Tm_ite (fun c => ?_) (fun c => ?_)
      · refine b3 U hU hj ?_
        have c' : σ.2.2.1 23 (L'.1 3).toNatClampNeg < 3 := c
        rw [u_cl (by omega), lt_3] at c'
        exact fun p q => absurd ⟨p, q⟩ c'
      · have c' : ¬ σ.2.2.1 23 (L'.1 3).toNatClampNeg < 3 := c
        rw [u_cl (by omega), lt_3] at c'
        have c2 := Classical.not_not.1 c'
        refine Tm_chk i3 ?_
        refine Tm_oc (c_markCell (HQ_f h (k := 1) (by decide) U) hU.1 ?_ ?_ ?_) (fun r q => ?_)
        · show g (uN (σ.2.2.1 23 (L'.1 3).toNatClampNeg))
          rw [u_cl (by omega)]
          exact (Gw_c gv c2.2).2
        · show 3 ≤ uN (σ.2.2.1 23 (L'.1 3).toNatClampNeg)
          rw [u_cl (by omega)]
          exact c2.1
        · show uN (σ.2.2.1 23 (L'.1 3).toNatClampNeg) < _
          rw [u_cl (by omega)]
          exact c2.2
        · obtain ⟨U2, e, m2, q2⟩ := q
          rw [e, uF_f]
          have q3 : bI U2 (uN (σ.2.2.1 23 (L'.1 3).toNatClampNeg)) = 1 := q2
          rw [u_cl (by omega)] at q3
          exact b3 U2 (MkU_t hU m2) (fun j hj2 p q => m2.2.1 _ (hj j hj2 p q)) (fun _ _ => q3)
  refine Tm_suc (fun k => by rw [y_X1_markRow__a23]) ?_
  have e := uF_id σ 1
  have z := b1 (uN (L.1 2)) (lI L 3 0) (σ.2.2.1 1) (by show 0 + _ = _; omega) rfl ⟨hb, fun _ z => z, fun q _ z => Or.inl z⟩ (fun j hj => absurd hj (Nat.not_lt_zero j))
  rw [e] at z
  exact z
theorem c_moveRow23 (h : HQ g l t σ) (hB : BfU (sN σ 1) (σ.2.2.1 1) (σ.2.2.1 2)) (hN : 3780 ≤ 1000000000) (hn : uN (L.1 2) ≤ 3780) (hv : ∀ j, j < uN (L.1 2) → Gw g (σ.2.2.1 23 j)) : Tm (fun k => y_X1_moveRow__a23 k 0 L σ) (fun r => ∃ f, r.2 = uF σ 23 f ∧ (∀ j, j < uN (L.1 2) → f j = rnm (σ.2.2.1 1) (σ.2.2.1 23 j)) ∧ ∀ j, uN (L.1 2) ≤ j → f j = σ.2.2.1 23 j) := by
  have b1 : ∀ (m : Nat) (L' : LV) (f : Nat → Int32), uN (L'.1 3) + m = uN (L.1 2) → L'.1 2 = L.1 2 → (∀ j, j < uN (L'.1 3) → f j = rnm (σ.2.2.1 1) (σ.2.2.1 23 j)) → (∀ j, uN (L'.1 3) ≤ j → f j = σ.2.2.1 23 j) → Tm (fun k => y_X1_moveRow__a23 k 1 L' (uF σ 23 f)) (fun r => ∃ f, r.2 = uF σ 23 f ∧ (∀ j, j < uN (L.1 2) → f j = rnm (σ.2.2.1 1) (σ.2.2.1 23 j)) ∧ ∀ j, uN (L.1 2) ≤ j → f j = σ.2.2.1 23 j) := by
    intro m
    induction m with
    | zero =>
      intro L' f a3 a2 h1 h2
      refine Tm_suc (fun k => by rw [y_X1_moveRow__a23]) ?_
      refine Tm_yes (by rw [a2, u_le (by omega) (by omega)]; omega) ?_
      refine Tm_suc (fun k => by rw [y_X1_moveRow__a23]) ?_
      exact Tm_some ⟨f, rfl, fun j q => h1 j (by omega), fun j q => h2 j (by omega)⟩
    | succ m ih =>
      intro L' f a3 a2 h1 h2
      have b3 : ∀ f2 : Nat → Int32, (∀ j, j < uN (L'.1 3) + 1 → f2 j = rnm (σ.2.2.1 1) (σ.2.2.1 23 j)) → (∀ j, uN (L'.1 3) + 1 ≤ j → f2 j = σ.2.2.1 23 j) → Tm (fun k => y_X1_moveRow__a23 k 3 L' (uF σ 23 f2)) (fun r => ∃ f, r.2 = uF σ 23 f ∧ (∀ j, j < uN (L.1 2) → f j = rnm (σ.2.2.1 1) (σ.2.2.1 23 j)) ∧ ∀ j, uN (L.1 2) ≤ j → f j = σ.2.2.1 23 j) := by
        intro f2 z1 z2
        refine Tm_suc (fun k => by rw [y_X1_moveRow__a23]) ?_
        refine ih _ f2 ?_ a2 ?_ ?_
        · show uN (L'.1 3 + 1) + m = _
          rw [u_inc (by omega)]; omega
        · show ∀ j, j < uN (L'.1 3 + 1) → _
          rw [u_inc (by omega)]
          exact z1
        · show ∀ j, uN (L'.1 3 + 1) ≤ j → _
          rw [u_inc (by omega)]
          exact z2
      have i3 : ¬ (L'.1 3 < 0 ∨ 3780 ≤ (L'.1 3).toNatClampNeg) := u_in (by omega) (by omega)
      have gv := hv (uN (L'.1 3)) (by omega)
      have ef : (uF σ 23 f).2.2.1 23 (L'.1 3).toNatClampNeg = σ.2.2.1 23 (uN (L'.1 3)) := by
        show f (L'.1 3).toNatClampNeg = _
        rw [u_cl (by omega)]
        exact h2 _ (Nat.le_refl _)
      refine Tm_suc (fun k => by rw [y_X1_moveRow__a23]) ?_
      refine Tm_no (by rw [a2, u_le (by omega) (by omega)]; omega) ?_
      refine Tm_chk i3 ?_
      rw [ef]
      refine Tm_ite (fun c => ?_) (fun c => ?_)
      · rw [lt_3] at c
        refine b3 f ?_ (fun j hj => h2 j (by omega))
        intro j hj
        rcases Nat.lt_or_ge j (uN (L'.1 3)) with d | d
        · exact h1 j d
        · have ej : j = uN (L'.1 3) := by omega
          rw [h2 j d, ej]
          exact (if_neg c).symm
      · rw [lt_3] at c
        have c2 := Classical.not_not.1 c
        refine Tm_chk i3 ?_
        have gc := HQ_c h (Gw_c gv c2.2).2
        refine Tm_ocE (c_placeOfH (HQ_f h (k := 23) (by decide) f) hB gc.1) ?_
        refine Tm_chk i3 ?_
        rw [uF_a]
        refine b3 _ ?_ ?_
        · intro j hj
          show upd f (L'.1 3).toNatClampNeg (nI (ctB (σ.2.2.1 1) (uN (σ.2.2.1 23 (uN (L'.1 3)))))) j = _
          rw [u_cl (by omega)]
          by_cases d : j = uN (L'.1 3)
          · rw [d, upd_same]
            exact (if_pos c2).symm
          · rw [upd_other d]
            exact h1 j (by omega)
        · intro j hj
          show upd f (L'.1 3).toNatClampNeg _ j = _
          rw [u_cl (by omega), upd_other (by omega)]
          exact h2 j (by omega)
  refine Tm_suc (fun k => by rw [y_X1_moveRow__a23]) ?_
  have e := uF_id σ 23
  have z := b1 (uN (L.1 2)) (lI L 3 0) (σ.2.2.1 23) (by show 0 + _ = _; omega) rfl (fun j hj => absurd hj (Nat.not_lt_zero j)) (fun _ _ => rfl)
  rw [e] at z
  exact z
theorem c_markRow21 (h : HQ g l t σ) (hb : BI g l (σ.2.2.1 3) (σ.2.2.1 1)) (hN : sN σ 21 ≤ 1000000000) (hn : uN (L.1 2) ≤ sN σ 21) (hv : ∀ j, j < uN (L.1 2) → Gw g (σ.2.2.1 21 j)) : Tm (fun k => y_X1_markRow__z21 k 0 L σ) (fun r => ∃ U', r.2 = uF σ 1 U' ∧ MkU g l σ U' ∧ ∀ j, j < uN (L.1 2) → MkV U' (σ.2.2.1 21 j)) := by
  have b1 : ∀ (m : Nat) (L' : LV) (U : Nat → Int32), uN (L'.1 3) + m = uN (L.1 2) → L'.1 2 = L.1 2 → MkU g l σ U → (∀ j, j < uN (L'.1 3) → MkV U (σ.2.2.1 21 j)) → Tm (fun k => y_X1_markRow__z21 k 1 L' (uF σ 1 U)) (fun r => ∃ U', r.2 = uF σ 1 U' ∧ MkU g l σ U' ∧ ∀ j, j < uN (L.1 2) → MkV U' (σ.2.2.1 21 j)) := by
    intro m
    induction m with
    | zero =>
      intro L' U a3 a2 hU hj
      refine Tm_suc (fun k => by rw [y_X1_markRow__z21]) ?_
      refine Tm_yes (by rw [a2, u_le (by omega) (by omega)]; omega) ?_
      refine Tm_suc (fun k => by rw [y_X1_markRow__z21]) ?_
      exact Tm_some ⟨U, rfl, hU, fun j q => hj j (by omega)⟩
    | succ m ih =>
      intro L' U a3 a2 hU hj
      have b3 : ∀ U2 : Nat → Int32, MkU g l σ U2 → (∀ j, j < uN (L'.1 3) → MkV U2 (σ.2.2.1 21 j)) → MkV U2 (σ.2.2.1 21 (uN (L'.1 3))) → Tm (fun k => y_X1_markRow__z21 k 3 L' (uF σ 1 U2)) (fun r => ∃ U', r.2 = uF σ 1 U' ∧ MkU g l σ U' ∧ ∀ j, j < uN (L.1 2) → MkV U' (σ.2.2.1 21 j)) := by
        intro U2 z1 z2 z3
        refine Tm_suc (fun k => by rw [y_X1_markRow__z21]) ?_
        refine ih _ U2 ?_ a2 z1 ?_
        · show uN (L'.1 3 + 1) + m = _
          rw [u_inc (by omega)]; omega
        · show ∀ j, j < uN (L'.1 3 + 1) → MkV U2 (σ.2.2.1 21 j)
          rw [u_inc (by omega)]
          intro j q
          rcases Nat.lt_or_ge j (uN (L'.1 3)) with c | c
          · exact z2 j c
          · rw [show j = uN (L'.1 3) from by omega]
            exact z3
      have i3 : ¬ (L'.1 3 < 0 ∨ sN σ 21 ≤ (L'.1 3).toNatClampNeg) := u_in (by omega) (by omega)
      have gv := hv (uN (L'.1 3)) (by omega)
      refine Tm_suc (fun k => by rw [y_X1_markRow__z21]) ?_
      refine Tm_no (by rw [a2, u_le (by omega) (by omega)]; omega) ?_
      refine Tm_chk i3 ?_
      refine Tm_ite (fun c => ?_) (fun c => ?_)
      · refine b3 U hU hj ?_
        have c' : σ.2.2.1 21 (L'.1 3).toNatClampNeg < 3 := c
        rw [u_cl (by omega), lt_3] at c'
        exact fun p q => absurd ⟨p, q⟩ c'
      · have c' : ¬ σ.2.2.1 21 (L'.1 3).toNatClampNeg < 3 := c
        rw [u_cl (by omega), lt_3] at c'
        have c2 := Classical.not_not.1 c'
        refine Tm_chk i3 ?_
        refine Tm_oc (c_markCell (HQ_f h (k := 1) (by decide) U) hU.1 ?_ ?_ ?_) (fun r q => ?_)
        · show g (uN (σ.2.2.1 21 (L'.1 3).toNatClampNeg))
          rw [u_cl (by omega)]
          exact (Gw_c gv c2.2).2
        · show 3 ≤ uN (σ.2.2.1 21 (L'.1 3).toNatClampNeg)
          rw [u_cl (by omega)]
          exact c2.1
        · show uN (σ.2.2.1 21 (L'.1 3).toNatClampNeg) < _
          rw [u_cl (by omega)]
          exact c2.2
        · obtain ⟨U2, e, m2, q2⟩ := q
          rw [e, uF_f]
          have q3 : bI U2 (uN (σ.2.2.1 21 (L'.1 3).toNatClampNeg)) = 1 := q2
          rw [u_cl (by omega)] at q3
          exact b3 U2 (MkU_t hU m2) (fun j hj2 p q => m2.2.1 _ (hj j hj2 p q)) (fun _ _ => q3)
  refine Tm_suc (fun k => by rw [y_X1_markRow__z21]) ?_
  have e := uF_id σ 1
  have z := b1 (uN (L.1 2)) (lI L 3 0) (σ.2.2.1 1) (by show 0 + _ = _; omega) rfl ⟨hb, fun _ z => z, fun q _ z => Or.inl z⟩ (fun j hj => absurd hj (Nat.not_lt_zero j))
  rw [e] at z
  exact z
theorem c_moveRow21 (h : HQ g l t σ) (hB : BfU (sN σ 1) (σ.2.2.1 1) (σ.2.2.1 2)) (hN : sN σ 21 ≤ 1000000000) (hn : uN (L.1 2) ≤ sN σ 21) (hv : ∀ j, j < uN (L.1 2) → Gw g (σ.2.2.1 21 j)) : Tm (fun k => y_X1_moveRow__z21 k 0 L σ) (fun r => ∃ f, r.2 = uF σ 21 f ∧ (∀ j, j < uN (L.1 2) → f j = rnm (σ.2.2.1 1) (σ.2.2.1 21 j)) ∧ ∀ j, uN (L.1 2) ≤ j → f j = σ.2.2.1 21 j) := by
  have b1 : ∀ (m : Nat) (L' : LV) (f : Nat → Int32), uN (L'.1 3) + m = uN (L.1 2) → L'.1 2 = L.1 2 → (∀ j, j < uN (L'.1 3) → f j = rnm (σ.2.2.1 1) (σ.2.2.1 21 j)) → (∀ j, uN (L'.1 3) ≤ j → f j = σ.2.2.1 21 j) → Tm (fun k => y_X1_moveRow__z21 k 1 L' (uF σ 21 f)) (fun r => ∃ f, r.2 = uF σ 21 f ∧ (∀ j, j < uN (L.1 2) → f j = rnm (σ.2.2.1 1) (σ.2.2.1 21 j)) ∧ ∀ j, uN (L.1 2) ≤ j → f j = σ.2.2.1 21 j) := by
    intro m
    induction m with
    | zero =>
      intro L' f a3 a2 h1 h2
      refine Tm_suc (fun k => by rw [y_X1_moveRow__z21]) ?_
      refine Tm_yes (by rw [a2, u_le (by omega) (by omega)]; omega) ?_
      refine Tm_suc (fun k => by rw [y_X1_moveRow__z21]) ?_
      exact Tm_some ⟨f, rfl, fun j q => h1 j (by omega), fun j q => h2 j (by omega)⟩
    | succ m ih =>
      intro L' f a3 a2 h1 h2
      have b3 : ∀ f2 : Nat → Int32, (∀ j, j < uN (L'.1 3) + 1 → f2 j = rnm (σ.2.2.1 1) (σ.2.2.1 21 j)) → (∀ j, uN (L'.1 3) + 1 ≤ j → f2 j = σ.2.2.1 21 j) → Tm (fun k => y_X1_moveRow__z21 k 3 L' (uF σ 21 f2)) (fun r => ∃ f, r.2 = uF σ 21 f ∧ (∀ j, j < uN (L.1 2) → f j = rnm (σ.2.2.1 1) (σ.2.2.1 21 j)) ∧ ∀ j, uN (L.1 2) ≤ j → f j = σ.2.2.1 21 j) := by
        intro f2 z1 z2
        refine Tm_suc (fun k => by rw [y_X1_moveRow__z21]) ?_
        refine ih _ f2 ?_ a2 ?_ ?_
        · show uN (L'.1 3 + 1) + m = _
          rw [u_inc (by omega)]; omega
        · show ∀ j, j < uN (L'.1 3 + 1) → _
          rw [u_inc (by omega)]
          exact z1
        · show ∀ j, uN (L'.1 3 + 1) ≤ j → _
          rw [u_inc (by omega)]
          exact z2
      have i3 : ¬ (L'.1 3 < 0 ∨ sN σ 21 ≤ (L'.1 3).toNatClampNeg) := u_in (by omega) (by omega)
      have gv := hv (uN (L'.1 3)) (by omega)
      have ef : (uF σ 21 f).2.2.1 21 (L'.1 3).toNatClampNeg = σ.2.2.1 21 (uN (L'.1 3)) := by
        show f (L'.1 3).toNatClampNeg = _
        rw [u_cl (by omega)]
        exact h2 _ (Nat.le_refl _)
      refine Tm_suc (fun k => by rw [y_X1_moveRow__z21]) ?_
      refine Tm_no (by rw [a2, u_le (by omega) (by omega)]; omega) ?_
      refine Tm_chk i3 ?_
      rw [ef]
      refine Tm_ite (fun c => ?_) (fun c => ?_)
      · rw [lt_3] at c
        refine b3 f ?_ (fun j hj => h2 j (by omega))
        intro j hj
        rcases Nat.lt_or_ge j (uN (L'.1 3)) with d | d
        · exact h1 j d
        · have ej : j = uN (L'.1 3) := by omega
          rw [h2 j d, ej]
          exact (if_neg c).symm
      · rw [lt_3] at c
        have c2 := Classical.not_not.1 c
        refine Tm_chk i3 ?_
        have gc := HQ_c h (Gw_c gv c2.2).2
        refine Tm_ocE (c_placeOfH (HQ_f h (k := 21) (by decide) f) hB gc.1) ?_
        refine Tm_chk i3 ?_
        rw [uF_a]
        refine b3 _ ?_ ?_
        · intro j hj
          show upd f (L'.1 3).toNatClampNeg (nI (ctB (σ.2.2.1 1) (uN (σ.2.2.1 21 (uN (L'.1 3)))))) j = _
          rw [u_cl (by omega)]
          by_cases d : j = uN (L'.1 3)
          · rw [d, upd_same]
            exact (if_pos c2).symm
          · rw [upd_other d]
            exact h1 j (by omega)
        · intro j hj
          show upd f (L'.1 3).toNatClampNeg _ j = _
          rw [u_cl (by omega), upd_other (by omega)]
          exact h2 j (by omega)
  refine Tm_suc (fun k => by rw [y_X1_moveRow__z21]) ?_
  have e := uF_id σ 21
  have z := b1 (uN (L.1 2)) (lI L 3 0) (σ.2.2.1 21) (by show 0 + _ = _; omega) rfl (fun j hj => absurd hj (Nat.not_lt_zero j)) (fun _ _ => rfl)
  rw [e] at z
  exact z
theorem c_markRow67 (h : HQ g l t σ) (hb : BI g l (σ.2.2.1 3) (σ.2.2.1 1)) (hN : 27 ≤ 1000000000) (hn : uN (L.1 2) ≤ 27) (hv : ∀ j, j < uN (L.1 2) → Gw g (σ.2.2.1 67 j)) : Tm (fun k => y_X1_markRow__a67 k 0 L σ) (fun r => ∃ U', r.2 = uF σ 1 U' ∧ MkU g l σ U' ∧ ∀ j, j < uN (L.1 2) → MkV U' (σ.2.2.1 67 j)) := by
  have b1 : ∀ (m : Nat) (L' : LV) (U : Nat → Int32), uN (L'.1 3) + m = uN (L.1 2) → L'.1 2 = L.1 2 → MkU g l σ U → (∀ j, j < uN (L'.1 3) → MkV U (σ.2.2.1 67 j)) → Tm (fun k => y_X1_markRow__a67 k 1 L' (uF σ 1 U)) (fun r => ∃ U', r.2 = uF σ 1 U' ∧ MkU g l σ U' ∧ ∀ j, j < uN (L.1 2) → MkV U' (σ.2.2.1 67 j)) := by
    intro m
    induction m with
    | zero =>
      intro L' U a3 a2 hU hj
      refine Tm_suc (fun k => by rw [y_X1_markRow__a67]) ?_
      refine Tm_yes (by rw [a2, u_le (by omega) (by omega)]; omega) ?_
      refine Tm_suc (fun k => by rw [y_X1_markRow__a67]) ?_
      exact Tm_some ⟨U, rfl, hU, fun j q => hj j (by omega)⟩
    | succ m ih =>
      intro L' U a3 a2 hU hj
      have b3 : ∀ U2 : Nat → Int32, MkU g l σ U2 → (∀ j, j < uN (L'.1 3) → MkV U2 (σ.2.2.1 67 j)) → MkV U2 (σ.2.2.1 67 (uN (L'.1 3))) → Tm (fun k => y_X1_markRow__a67 k 3 L' (uF σ 1 U2)) (fun r => ∃ U', r.2 = uF σ 1 U' ∧ MkU g l σ U' ∧ ∀ j, j < uN (L.1 2) → MkV U' (σ.2.2.1 67 j)) := by
        intro U2 z1 z2 z3
        refine Tm_suc (fun k => by rw [y_X1_markRow__a67]) ?_
        refine ih _ U2 ?_ a2 z1 ?_
        · show uN (L'.1 3 + 1) + m = _
          rw [u_inc (by omega)]; omega
        · show ∀ j, j < uN (L'.1 3 + 1) → MkV U2 (σ.2.2.1 67 j)
          rw [u_inc (by omega)]
          intro j q
          rcases Nat.lt_or_ge j (uN (L'.1 3)) with c | c
          · exact z2 j c
          · rw [show j = uN (L'.1 3) from by omega]
            exact z3
      have i3 : ¬ (L'.1 3 < 0 ∨ 27 ≤ (L'.1 3).toNatClampNeg) := u_in (by omega) (by omega)
      have gv := hv (uN (L'.1 3)) (by omega)
      refine Tm_suc (fun k => by rw [y_X1_markRow__a67]) ?_
      refine Tm_no (by rw [a2, u_le (by omega) (by omega)]; omega) ?_
      refine Tm_chk i3 ?_
      refine Tm_ite (fun c => ?_) (fun c => ?_)
      · refine b3 U hU hj ?_
        have c' : σ.2.2.1 67 (L'.1 3).toNatClampNeg < 3 := c
        rw [u_cl (by omega), lt_3] at c'
        exact fun p q => absurd ⟨p, q⟩ c'
      · have c' : ¬ σ.2.2.1 67 (L'.1 3).toNatClampNeg < 3 := c
        rw [u_cl (by omega), lt_3] at c'
        have c2 := Classical.not_not.1 c'
        refine Tm_chk i3 ?_
        refine Tm_oc (c_markCell (HQ_f h (k := 1) (by decide) U) hU.1 ?_ ?_ ?_) (fun r q => ?_)
        · show g (uN (σ.2.2.1 67 (L'.1 3).toNatClampNeg))
          rw [u_cl (by omega)]
          exact (Gw_c gv c2.2).2
        · show 3 ≤ uN (σ.2.2.1 67 (L'.1 3).toNatClampNeg)
          rw [u_cl (by omega)]
          exact c2.1
        · show uN (σ.2.2.1 67 (L'.1 3).toNatClampNeg) < _
          rw [u_cl (by omega)]
          exact c2.2
        · obtain ⟨U2, e, m2, q2⟩ := q
          rw [e, uF_f]
          have q3 : bI U2 (uN (σ.2.2.1 67 (L'.1 3).toNatClampNeg)) = 1 := q2
          rw [u_cl (by omega)] at q3
          exact b3 U2 (MkU_t hU m2) (fun j hj2 p q => m2.2.1 _ (hj j hj2 p q)) (fun _ _ => q3)
  refine Tm_suc (fun k => by rw [y_X1_markRow__a67]) ?_
  have e := uF_id σ 1
  have z := b1 (uN (L.1 2)) (lI L 3 0) (σ.2.2.1 1) (by show 0 + _ = _; omega) rfl ⟨hb, fun _ z => z, fun q _ z => Or.inl z⟩ (fun j hj => absurd hj (Nat.not_lt_zero j))
  rw [e] at z
  exact z
theorem c_moveRow67 (h : HQ g l t σ) (hB : BfU (sN σ 1) (σ.2.2.1 1) (σ.2.2.1 2)) (hN : 27 ≤ 1000000000) (hn : uN (L.1 2) ≤ 27) (hv : ∀ j, j < uN (L.1 2) → Gw g (σ.2.2.1 67 j)) : Tm (fun k => y_X1_moveRow__a67 k 0 L σ) (fun r => ∃ f, r.2 = uF σ 67 f ∧ (∀ j, j < uN (L.1 2) → f j = rnm (σ.2.2.1 1) (σ.2.2.1 67 j)) ∧ ∀ j, uN (L.1 2) ≤ j → f j = σ.2.2.1 67 j) := by
  have b1 : ∀ (m : Nat) (L' : LV) (f : Nat → Int32), uN (L'.1 3) + m = uN (L.1 2) → L'.1 2 = L.1 2 → (∀ j, j < uN (L'.1 3) → f j = rnm (σ.2.2.1 1) (σ.2.2.1 67 j)) → (∀ j, uN (L'.1 3) ≤ j → f j = σ.2.2.1 67 j) → Tm (fun k => y_X1_moveRow__a67 k 1 L' (uF σ 67 f)) (fun r => ∃ f, r.2 = uF σ 67 f ∧ (∀ j, j < uN (L.1 2) → f j = rnm (σ.2.2.1 1) (σ.2.2.1 67 j)) ∧ ∀ j, uN (L.1 2) ≤ j → f j = σ.2.2.1 67 j) := by
    intro m
    induction m with
    | zero =>
      intro L' f a3 a2 h1 h2
      refine Tm_suc (fun k => by rw [y_X1_moveRow__a67]) ?_
      refine Tm_yes (by rw [a2, u_le (by omega) (by omega)]; omega) ?_
      refine Tm_suc (fun k => by rw [y_X1_moveRow__a67]) ?_
      exact Tm_some ⟨f, rfl, fun j q => h1 j (by omega), fun j q => h2 j (by omega)⟩
    | succ m ih =>
      intro L' f a3 a2 h1 h2
      have b3 : ∀ f2 : Nat → Int32, (∀ j, j < uN (L'.1 3) + 1 → f2 j = rnm (σ.2.2.1 1) (σ.2.2.1 67 j)) → (∀ j, uN (L'.1 3) + 1 ≤ j → f2 j = σ.2.2.1 67 j) → Tm (fun k => y_X1_moveRow__a67 k 3 L' (uF σ 67 f2)) (fun r => ∃ f, r.2 = uF σ 67 f ∧ (∀ j, j < uN (L.1 2) → f j = rnm (σ.2.2.1 1) (σ.2.2.1 67 j)) ∧ ∀ j, uN (L.1 2) ≤ j → f j = σ.2.2.1 67 j) := by
        intro f2 z1 z2
        refine Tm_suc (fun k => by rw [y_X1_moveRow__a67]) ?_
        refine ih _ f2 ?_ a2 ?_ ?_
        · show uN (L'.1 3 + 1) + m = _
          rw [u_inc (by omega)]; omega
        · show ∀ j, j < uN (L'.1 3 + 1) → _
          rw [u_inc (by omega)]
          exact z1
        · show ∀ j, uN (L'.1 3 + 1) ≤ j → _
          rw [u_inc (by omega)]
          exact z2
      have i3 : ¬ (L'.1 3 < 0 ∨ 27 ≤ (L'.1 3).toNatClampNeg) := u_in (by omega) (by omega)
      have gv := hv (uN (L'.1 3)) (by omega)
      have ef : (uF σ 67 f).2.2.1 67 (L'.1 3).toNatClampNeg = σ.2.2.1 67 (uN (L'.1 3)) := by
        show f (L'.1 3).toNatClampNeg = _
        rw [u_cl (by omega)]
        exact h2 _ (Nat.le_refl _)
      refine Tm_suc (fun k => by rw [y_X1_moveRow__a67]) ?_
      refine Tm_no (by rw [a2, u_le (by omega) (by omega)]; omega) ?_
      refine Tm_chk i3 ?_
      rw [ef]
      refine Tm_ite (fun c => ?_) (fun c => ?_)
      · rw [lt_3] at c
        refine b3 f ?_ (fun j hj => h2 j (by omega))
        intro j hj
        rcases Nat.lt_or_ge j (uN (L'.1 3)) with d | d
        · exact h1 j d
        · have ej : j = uN (L'.1 3) := by omega
          rw [h2 j d, ej]
          exact (if_neg c).symm
      · rw [lt_3] at c
        have c2 := Classical.not_not.1 c
        refine Tm_chk i3 ?_
        have gc := HQ_c h (Gw_c gv c2.2).2
        refine Tm_ocE (c_placeOfH (HQ_f h (k := 67) (by decide) f) hB gc.1) ?_
        refine Tm_chk i3 ?_
        rw [uF_a]
        refine b3 _ ?_ ?_
        · intro j hj
          show upd f (L'.1 3).toNatClampNeg (nI (ctB (σ.2.2.1 1) (uN (σ.2.2.1 67 (uN (L'.1 3)))))) j = _
          rw [u_cl (by omega)]
          by_cases d : j = uN (L'.1 3)
          · rw [d, upd_same]
            exact (if_pos c2).symm
          · rw [upd_other d]
            exact h1 j (by omega)
        · intro j hj
          show upd f (L'.1 3).toNatClampNeg _ j = _
          rw [u_cl (by omega), upd_other (by omega)]
          exact h2 j (by omega)
  refine Tm_suc (fun k => by rw [y_X1_moveRow__a67]) ?_
  have e := uF_id σ 67
  have z := b1 (uN (L.1 2)) (lI L 3 0) (σ.2.2.1 67) (by show 0 + _ = _; omega) rfl (fun j hj => absurd hj (Nat.not_lt_zero j)) (fun _ _ => rfl)
  rw [e] at z
  exact z
theorem c_markRow26 (h : HQ g l t σ) (hb : BI g l (σ.2.2.1 3) (σ.2.2.1 1)) (hN : sN σ 26 ≤ 1000000000) (hn : uN (L.1 2) ≤ sN σ 26) (hv : ∀ j, j < uN (L.1 2) → Gw g (σ.2.2.1 26 j)) : Tm (fun k => y_X1_markRow__z26 k 0 L σ) (fun r => ∃ U', r.2 = uF σ 1 U' ∧ MkU g l σ U' ∧ ∀ j, j < uN (L.1 2) → MkV U' (σ.2.2.1 26 j)) := by
  have b1 : ∀ (m : Nat) (L' : LV) (U : Nat → Int32), uN (L'.1 3) + m = uN (L.1 2) → L'.1 2 = L.1 2 → MkU g l σ U → (∀ j, j < uN (L'.1 3) → MkV U (σ.2.2.1 26 j)) → Tm (fun k => y_X1_markRow__z26 k 1 L' (uF σ 1 U)) (fun r => ∃ U', r.2 = uF σ 1 U' ∧ MkU g l σ U' ∧ ∀ j, j < uN (L.1 2) → MkV U' (σ.2.2.1 26 j)) := by
    intro m
    induction m with
    | zero =>
      intro L' U a3 a2 hU hj
      refine Tm_suc (fun k => by rw [y_X1_markRow__z26]) ?_
      refine Tm_yes (by rw [a2, u_le (by omega) (by omega)]; omega) ?_
      refine Tm_suc (fun k => by rw [y_X1_markRow__z26]) ?_
      exact Tm_some ⟨U, rfl, hU, fun j q => hj j (by omega)⟩
    | succ m ih =>
      intro L' U a3 a2 hU hj
      have b3 : ∀ U2 : Nat → Int32, MkU g l σ U2 → (∀ j, j < uN (L'.1 3) → MkV U2 (σ.2.2.1 26 j)) → MkV U2 (σ.2.2.1 26 (uN (L'.1 3))) → Tm (fun k => y_X1_markRow__z26 k 3 L' (uF σ 1 U2)) (fun r => ∃ U', r.2 = uF σ 1 U' ∧ MkU g l σ U' ∧ ∀ j, j < uN (L.1 2) → MkV U' (σ.2.2.1 26 j)) := by
        intro U2 z1 z2 z3
        refine Tm_suc (fun k => by rw [y_X1_markRow__z26]) ?_
        refine ih _ U2 ?_ a2 z1 ?_
        · show uN (L'.1 3 + 1) + m = _
          rw [u_inc (by omega)]; omega
        · show ∀ j, j < uN (L'.1 3 + 1) → MkV U2 (σ.2.2.1 26 j)
          rw [u_inc (by omega)]
          intro j q
          rcases Nat.lt_or_ge j (uN (L'.1 3)) with c | c
          · exact z2 j c
          · rw [show j = uN (L'.1 3) from by omega]
            exact z3
      have i3 : ¬ (L'.1 3 < 0 ∨ sN σ 26 ≤ (L'.1 3).toNatClampNeg) := u_in (by omega) (by omega)
      have gv := hv (uN (L'.1 3)) (by omega)
      refine Tm_suc (fun k => by rw [y_X1_markRow__z26]) ?_
      refine Tm_no (by rw [a2, u_le (by omega) (by omega)]; omega) ?_
      refine Tm_chk i3 ?_
      refine Tm_ite (fun c => ?_) (fun c => ?_)
      · refine b3 U hU hj ?_
        have c' : σ.2.2.1 26 (L'.1 3).toNatClampNeg < 3 := c
        rw [u_cl (by omega), lt_3] at c'
        exact fun p q => absurd ⟨p, q⟩ c'
      · have c' : ¬ σ.2.2.1 26 (L'.1 3).toNatClampNeg < 3 := c
        rw [u_cl (by omega), lt_3] at c'
        have c2 := Classical.not_not.1 c'
        refine Tm_chk i3 ?_
        refine Tm_oc (c_markCell (HQ_f h (k := 1) (by decide) U) hU.1 ?_ ?_ ?_) (fun r q => ?_)
        · show g (uN (σ.2.2.1 26 (L'.1 3).toNatClampNeg))
          rw [u_cl (by omega)]
          exact (Gw_c gv c2.2).2
        · show 3 ≤ uN (σ.2.2.1 26 (L'.1 3).toNatClampNeg)
          rw [u_cl (by omega)]
          exact c2.1
        · show uN (σ.2.2.1 26 (L'.1 3).toNatClampNeg) < _
          rw [u_cl (by omega)]
          exact c2.2
        · obtain ⟨U2, e, m2, q2⟩ := q
          rw [e, uF_f]
          have q3 : bI U2 (uN (σ.2.2.1 26 (L'.1 3).toNatClampNeg)) = 1 := q2
          rw [u_cl (by omega)] at q3
          exact b3 U2 (MkU_t hU m2) (fun j hj2 p q => m2.2.1 _ (hj j hj2 p q)) (fun _ _ => q3)
  refine Tm_suc (fun k => by rw [y_X1_markRow__z26]) ?_
  have e := uF_id σ 1
  have z := b1 (uN (L.1 2)) (lI L 3 0) (σ.2.2.1 1) (by show 0 + _ = _; omega) rfl ⟨hb, fun _ z => z, fun q _ z => Or.inl z⟩ (fun j hj => absurd hj (Nat.not_lt_zero j))
  rw [e] at z
  exact z
theorem c_moveRow26 (h : HQ g l t σ) (hB : BfU (sN σ 1) (σ.2.2.1 1) (σ.2.2.1 2)) (hN : sN σ 26 ≤ 1000000000) (hn : uN (L.1 2) ≤ sN σ 26) (hv : ∀ j, j < uN (L.1 2) → Gw g (σ.2.2.1 26 j)) : Tm (fun k => y_X1_moveRow__z26 k 0 L σ) (fun r => ∃ f, r.2 = uF σ 26 f ∧ (∀ j, j < uN (L.1 2) → f j = rnm (σ.2.2.1 1) (σ.2.2.1 26 j)) ∧ ∀ j, uN (L.1 2) ≤ j → f j = σ.2.2.1 26 j) := by
  have b1 : ∀ (m : Nat) (L' : LV) (f : Nat → Int32), uN (L'.1 3) + m = uN (L.1 2) → L'.1 2 = L.1 2 → (∀ j, j < uN (L'.1 3) → f j = rnm (σ.2.2.1 1) (σ.2.2.1 26 j)) → (∀ j, uN (L'.1 3) ≤ j → f j = σ.2.2.1 26 j) → Tm (fun k => y_X1_moveRow__z26 k 1 L' (uF σ 26 f)) (fun r => ∃ f, r.2 = uF σ 26 f ∧ (∀ j, j < uN (L.1 2) → f j = rnm (σ.2.2.1 1) (σ.2.2.1 26 j)) ∧ ∀ j, uN (L.1 2) ≤ j → f j = σ.2.2.1 26 j) := by
    intro m
    induction m with
    | zero =>
      intro L' f a3 a2 h1 h2
      refine Tm_suc (fun k => by rw [y_X1_moveRow__z26]) ?_
      refine Tm_yes (by rw [a2, u_le (by omega) (by omega)]; omega) ?_
      refine Tm_suc (fun k => by rw [y_X1_moveRow__z26]) ?_
      exact Tm_some ⟨f, rfl, fun j q => h1 j (by omega), fun j q => h2 j (by omega)⟩
    | succ m ih =>
      intro L' f a3 a2 h1 h2
      have b3 : ∀ f2 : Nat → Int32, (∀ j, j < uN (L'.1 3) + 1 → f2 j = rnm (σ.2.2.1 1) (σ.2.2.1 26 j)) → (∀ j, uN (L'.1 3) + 1 ≤ j → f2 j = σ.2.2.1 26 j) → Tm (fun k => y_X1_moveRow__z26 k 3 L' (uF σ 26 f2)) (fun r => ∃ f, r.2 = uF σ 26 f ∧ (∀ j, j < uN (L.1 2) → f j = rnm (σ.2.2.1 1) (σ.2.2.1 26 j)) ∧ ∀ j, uN (L.1 2) ≤ j → f j = σ.2.2.1 26 j) := by
        intro f2 z1 z2
        refine Tm_suc (fun k => by rw [y_X1_moveRow__z26]) ?_
        refine ih _ f2 ?_ a2 ?_ ?_
        · show uN (L'.1 3 + 1) + m = _
          rw [u_inc (by omega)]; omega
        · show ∀ j, j < uN (L'.1 3 + 1) → _
          rw [u_inc (by omega)]
          exact z1
        · show ∀ j, uN (L'.1 3 + 1) ≤ j → _
          rw [u_inc (by omega)]
          exact z2
      have i3 : ¬ (L'.1 3 < 0 ∨ sN σ 26 ≤ (L'.1 3).toNatClampNeg) := u_in (by omega) (by omega)
      have gv := hv (uN (L'.1 3)) (by omega)
      have ef : (uF σ 26 f).2.2.1 26 (L'.1 3).toNatClampNeg = σ.2.2.1 26 (uN (L'.1 3)) := by
        show f (L'.1 3).toNatClampNeg = _
        rw [u_cl (by omega)]
        exact h2 _ (Nat.le_refl _)
      refine Tm_suc (fun k => by rw [y_X1_moveRow__z26]) ?_
      refine Tm_no (by rw [a2, u_le (by omega) (by omega)]; omega) ?_
      refine Tm_chk i3 ?_
      rw [ef]
      refine Tm_ite (fun c => ?_) (fun c => ?_)
      · rw [lt_3] at c
        refine b3 f ?_ (fun j hj => h2 j (by omega))
        intro j hj
        rcases Nat.lt_or_ge j (uN (L'.1 3)) with d | d
        · exact h1 j d
        · have ej : j = uN (L'.1 3) := by omega
          rw [h2 j d, ej]
          exact (if_neg c).symm
      · rw [lt_3] at c
        have c2 := Classical.not_not.1 c
        refine Tm_chk i3 ?_
        have gc := HQ_c h (Gw_c gv c2.2).2
        refine Tm_ocE (c_placeOfH (HQ_f h (k := 26) (by decide) f) hB gc.1) ?_
        refine Tm_chk i3 ?_
        rw [uF_a]
        refine b3 _ ?_ ?_
        · intro j hj
          show upd f (L'.1 3).toNatClampNeg (nI (ctB (σ.2.2.1 1) (uN (σ.2.2.1 26 (uN (L'.1 3)))))) j = _
          rw [u_cl (by omega)]
          by_cases d : j = uN (L'.1 3)
          · rw [d, upd_same]
            exact (if_pos c2).symm
          · rw [upd_other d]
            exact h1 j (by omega)
        · intro j hj
          show upd f (L'.1 3).toNatClampNeg _ j = _
          rw [u_cl (by omega), upd_other (by omega)]
          exact h2 j (by omega)
  refine Tm_suc (fun k => by rw [y_X1_moveRow__z26]) ?_
  have e := uF_id σ 26
  have z := b1 (uN (L.1 2)) (lI L 3 0) (σ.2.2.1 26) (by show 0 + _ = _; omega) rfl (fun j hj => absurd hj (Nat.not_lt_zero j)) (fun _ _ => rfl)
  rw [e] at z
  exact z
end CSM
