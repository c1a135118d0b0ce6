section JnS375
/-! The class: rows are marked and moved. -/
section CSM
variable {g g' g2 : Nat → Prop} {l l' l2 : List Nat} {t t' t2 : Nat} {σ σ' σ2 : CS} {L : LV} {x y i : Int32} {M M' U U' : Nat → Int32}
theorem MkU_t (a : MkU g l σ U) (b : MkU g l (uF σ 1 U) U') : MkU g l σ U' := by
  refine ⟨b.1, fun p hp => b.2.1 p (a.2.1 p hp), fun q q1 q2 => ?_⟩
  rcases b.2.2 q q1 q2 with z | z
  · rcases a.2.2 q q1 z with v | v
    · exact Or.inl v
    · exact Or.inr (ClU_m b.2.1 v)
  · exact Or.inr z
/-- a value is marked -/
def MkV (U : Nat → Int32) (x : Int32) : Prop := 3 ≤ uN x → uN x < 2147483648 → bI U (uN x) = 1
theorem lt_3 {x : Int32} : (x < 3) ↔ ¬ (3 ≤ uN x ∧ uN x < 2147483648) := by
  rw [i_lt, u_int x, u_int 3, if_pos (show uN 3 < 2147483648 by decide)]
  have e : (uN (3 : Int32) : Int) = 3 := rfl
  have := u_lt x
  rw [e]
  split <;> omega
theorem c_fill1 (hN : sN σ 1 ≤ 5000) (h1 : L.1 1 = 0) : Tm (fun k => y_J7_fill_53178__z1 k 0 L σ) (fun r => ∃ U, r.2 = uF σ 1 U ∧ ∀ j, j < sN σ 1 → U j = 0) := by
  have b1 : ∀ (m : Nat) (L' : LV) (U : Nat → Int32), uN (L'.1 2) + m = sN σ 1 → L'.1 3 = nI (sN σ 1) → L'.1 1 = 0 → (∀ j, j < uN (L'.1 2) → U j = 0) → Tm (fun k => y_J7_fill_53178__z1 k 1 L' (uF σ 1 U)) (fun r => ∃ U, r.2 = uF σ 1 U ∧ ∀ j, j < sN σ 1 → U j = 0) := by
    intro m
    induction m with
    | zero =>
      intro L' U a2 a3 a1 hU
      have e3 : uN (L'.1 3) = sN σ 1 := by rw [a3, u_n (by omega)]
      refine Tm_suc (fun k => by rw [y_J7_fill_53178__z1]) ?_
      refine Tm_yes (by rw [u_le (by omega) (by omega)]; omega) ?_
      refine Tm_suc (fun k => by rw [y_J7_fill_53178__z1]) ?_
      exact Tm_some ⟨U, rfl, fun j hj => hU j (by omega)⟩
    | succ m ih =>
      intro L' U a2 a3 a1 hU
      have e3 : uN (L'.1 3) = sN σ 1 := by rw [a3, u_n (by omega)]
      refine Tm_suc (fun k => by rw [y_J7_fill_53178__z1]) ?_
      refine Tm_no (by rw [u_le (by omega) (by omega)]; omega) ?_
      refine Tm_chk (u_in (by show _ < sN σ 1; omega) (by show sN σ 1 ≤ _; omega)) ?_
      rw [uF_a]
      refine ih _ _ ?_ a3 a1 ?_
      · show uN (L'.1 2 + 1) + m = _
        rw [u_inc (by omega)]; omega
      · show ∀ j, j < uN (L'.1 2 + 1) → upd U (L'.1 2).toNatClampNeg (L'.1 1) j = 0
        rw [u_inc (by omega), u_cl (by omega)]
        intro j hj
        by_cases c : j = uN (L'.1 2)
        · rw [c, upd_same, a1]
        · rw [upd_other c]
          exact hU j (by omega)
  refine Tm_suc (fun k => by rw [y_J7_fill_53178__z1]) ?_
  have e := uF_id σ 1
  have z := b1 (sN σ 1) (lI (lI L 2 0) 3 (Int32.ofNat (sN σ 1))) (σ.2.2.1 1) (by show 0 + _ = _; omega) rfl h1 (fun j hj => absurd hj (Nat.not_lt_zero j))
  rw [e] at z
  exact z
theorem c_beginMarking (h : HQ g l t σ) : Tm (fun k => y_X1_beginMarking k 0 L σ) (fun r => ∃ U, r.2 = uF σ 1 U ∧ BI g l (σ.2.2.1 3) U ∧ ∀ q, q ∈ l → bI U q = 0) := by
  have a := in_u h (p := 0) (by have := h.2.1; omega)
  refine Tm_suc (fun k => by rw [y_X1_beginMarking]) ?_
  refine Tm_oc (c_fill1 a.2.2.1 rfl) (fun r q => ?_)
  obtain ⟨U, e, hU⟩ := q
  rw [e]
  refine Tm_chk (u_in (by show _ < sN σ 1; show 0 < _; omega) (by show sN σ 1 ≤ _; omega)) ?_
  rw [uF_a]
  have b0 : ∀ p, p < 32 → bI (upd U (0 : Int32).toNatClampNeg 7) p = if p < 3 then 1 else 0 := by
    intro p hp
    unfold bI
    rw [show p / 32 = (0 : Int32).toNatClampNeg from by show p / 32 = 0; omega, upd_same, show p % 32 = p from by omega]
    have z : ∀ p, p < 32 → uN 7 / 2 ^ p % 2 = if p < 3 then 1 else 0 := by decide +kernel
    exact z p hp
  have b1 : ∀ p, 3 ≤ p → p < t → bI (upd U (0 : Int32).toNatClampNeg 7) p = 0 := by
    intro p h3 ht
    rcases Nat.lt_or_ge p 32 with c | c
    · rw [b0 p c, if_neg (by omega)]
    · unfold bI
      rw [upd_other (by show ¬ p / 32 = 0; omega), hU _ (in_u h ht).1]
      show 0 / 2 ^ (p % 32) % 2 = 0
      rw [Nat.zero_div]
  have tl := TlC_ge l 3 h.2.2.2.2.2.1
  have bq : ∀ q, q ∈ l → ∀ j, j ≤ hdW (uN (σ.2.2.1 3 q)) → bI (upd U (0 : Int32).toNatClampNeg 7) (q + j) = 0 := by
    intro q hq j hj
    have z := tl q hq
    exact b1 _ (by omega) (by omega)
  refine Tm_some ⟨_, rfl, ⟨?_, ?_, ?_, ?_, ?_⟩, ?_⟩
  · intro q hq j hj
    rw [bq q hq j hj]
    exact (bq q hq 0 (by omega)).symm
  · intro q hq h1
    rw [show bI (upd U (0 : Int32).toNatClampNeg 7) q = 0 from bq q hq 0 (by omega)] at h1
    exact absurd h1 (by decide)
  · exact b0 0 (by decide)
  · exact b0 1 (by decide)
  · exact b0 2 (by decide)
  · intro q hq
    exact bq q hq 0 (by omega)
/-- before each word: how many -/
def BfU (n : Nat) (U B : Nat → Int32) : Prop := ∀ i, i < n → uN (B i) = ctB U (32 * i)
theorem c_endMarking (h1 : sN σ 1 ≤ 5000) (h2 : sN σ 2 = sN σ 1) : Tm (fun k => y_X1_endMarking k 0 L σ) (fun r => ∃ B, r.2 = uF σ 2 B ∧ BfU (sN σ 1) (σ.2.2.1 1) B) := by
  have b1 : ∀ (m : Nat) (L' : LV) (B : Nat → Int32), uN (L'.1 2) + m = sN σ 1 → uN (L'.1 1) = ctB (σ.2.2.1 1) (32 * uN (L'.1 2)) → BfU (uN (L'.1 2)) (σ.2.2.1 1) B → Tm (fun k => y_X1_endMarking k 1 L' (uF σ 2 B)) (fun r => ∃ B, r.2 = uF σ 2 B ∧ BfU (sN σ 1) (σ.2.2.1 1) B) := by
    intro m
    induction m with
    | zero =>
      intro L' B a2 a1 hB
      refine Tm_suc (fun k => by rw [y_X1_endMarking]) ?_
      refine Tm_yes (by show nI (sN σ 1) ≤ _; rw [u_le (by rw [u_n (by omega)]; omega) (by omega), u_n (by omega)]; omega) ?_
      refine Tm_suc (fun k => by rw [y_X1_endMarking]) ?_
      exact Tm_some ⟨B, rfl, fun j hj => hB j (by omega)⟩
    | succ m ih =>
      intro L' B a2 a1 hB
      have cl := ct_le (σ.2.2.1 1) (32 * uN (L'.1 2))
      refine Tm_suc (fun k => by rw [y_X1_endMarking]) ?_
      refine Tm_no (by show ¬ nI (sN σ 1) ≤ _; rw [u_le (by rw [u_n (by omega)]; omega) (by omega), u_n (by omega)]; omega) ?_
      refine Tm_chk (u_in (by show _ < sN σ 2; omega) (by show sN σ 2 ≤ _; omega)) ?_
      refine Tm_chk (u_in (by show _ < sN σ 1; omega) (by show sN σ 1 ≤ _; omega)) ?_
      rw [uF_a]
      refine Tm_ocE c_bitCount ?_
      have pl := pcn_le (uN (σ.2.2.1 1 (L'.1 2).toNatClampNeg)) 32
      refine ih _ _ ?_ ?_ ?_
      · show uN (L'.1 2 + 1) + m = _
        rw [u_inc (by omega)]; omega
      · show uN (L'.1 1 + nI (pcn (uN (σ.2.2.1 1 (L'.1 2).toNatClampNeg)) 32)) = ctB (σ.2.2.1 1) (32 * uN (L'.1 2 + 1))
        have z := ct_w (σ.2.2.1 1) (uN (L'.1 2)) 32 (Nat.le_refl _)
        rw [u_inc (by omega), show 32 * (uN (L'.1 2) + 1) = 32 * uN (L'.1 2) + 32 from by omega, z, ← u_cl (x := L'.1 2) (by omega), u_add (by rw [u_n (by omega), a1]; omega), u_n (by omega), a1, u_cl (by omega)]
      · show BfU (uN (L'.1 2 + 1)) (σ.2.2.1 1) (upd B (L'.1 2).toNatClampNeg (L'.1 1))
        rw [u_inc (by omega), u_cl (by omega)]
        intro j hj
        by_cases c : j = uN (L'.1 2)
        · rw [c, upd_same, a1]
        · rw [upd_other c]
          exact hB j (by omega)
  refine Tm_suc (fun k => by rw [y_X1_endMarking]) ?_
  have e := uF_id σ 2
  have z := b1 (sN σ 1) (lI (lI L 1 0) 2 0) (σ.2.2.1 2) (by show 0 + _ = _; omega) rfl (fun j hj => absurd hj (Nat.not_lt_zero j))
  rw [e] at z
  exact z
theorem c_placeOfP (hB : BfU (sN σ 1) (σ.2.2.1 1) (σ.2.2.1 2)) (n1 : sN σ 1 ≤ 5000) (n2 : sN σ 2 = sN σ 1) (hx : uN (L.1 1) / 32 < sN σ 1) : Tm (fun k => y_X1_placeOf k 0 L σ) (fun r => r = (nI (ctB (σ.2.2.1 1) (uN (L.1 1))), σ)) := by
  have e := u_sar5 (x := L.1 1) (by omega)
  refine Tm_suc (fun k => by rw [y_X1_placeOf]) ?_
  refine Tm_chk (u_in (by omega) (by omega)) ?_
  refine Tm_chk (u_in (by omega) (by omega)) ?_
  refine Tm_ocE c_bitCount ?_
  refine Tm_some (Prod.ext ?_ rfl)
  show σ.2.2.1 2 (L.1 1 >>> ((5 : Int32) &&& 31)).toNatClampNeg + nI (pcn (uN (σ.2.2.1 1 (L.1 1 >>> ((5 : Int32) &&& 31)).toNatClampNeg &&& (((1 : Int32) <<< ((L.1 1 &&& 31) &&& 31)) - 1))) 32) = nI (ctB (σ.2.2.1 1) (uN (L.1 1)))
  rw [u_cl (by omega), e]
  have s1 : uN (((1 : Int32) <<< ((L.1 1 &&& 31) &&& 31)) - 1) = 2 ^ (uN (L.1 1) % 32) - 1 := by
    have u1 : uN (1 : Int32) = 1 := rfl
    rw [u_and5 (L.1 1), u_sub (by rw [sh_1 _ (by omega), u1]; exact Nat.one_le_two_pow), sh_1 _ (by omega), u1]
  have s2 : pcn (uN (σ.2.2.1 1 (uN (L.1 1) / 32) &&& (((1 : Int32) <<< ((L.1 1 &&& 31) &&& 31)) - 1))) 32 = pcn (uN (σ.2.2.1 1 (uN (L.1 1) / 32))) (uN (L.1 1) % 32) := by
    rw [u_and, s1, Nat.and_two_pow_sub_one_eq_mod]
    have z := pcn_z (uN (L.1 1) % 32) (uN (σ.2.2.1 1 (uN (L.1 1) / 32)) % 2 ^ (uN (L.1 1) % 32)) (Nat.mod_lt _ Nat.one_le_two_pow) (32 - uN (L.1 1) % 32)
    rw [show uN (L.1 1) % 32 + (32 - uN (L.1 1) % 32) = 32 from by omega] at z
    rw [z]
    exact pcn_mod _ _ _ (Nat.le_refl _)
  have w := ct_w (σ.2.2.1 1) (uN (L.1 1) / 32) (uN (L.1 1) % 32) (by omega)
  rw [show 32 * (uN (L.1 1) / 32) + uN (L.1 1) % 32 = uN (L.1 1) from by omega] at w
  have q := hB (uN (L.1 1) / 32) hx
  have cl := ct_le (σ.2.2.1 1) (32 * (uN (L.1 1) / 32))
  have pl := pcn_le (uN (σ.2.2.1 1 (uN (L.1 1) / 32))) (uN (L.1 1) % 32)
  rw [s2, w, u_of (σ.2.2.1 2 (uN (L.1 1) / 32) + _)]
  congr 1
  rw [u_add (by rw [q, u_n (by omega)]; omega), q, u_n (by omega)]
theorem c_placeOfH (h : HQ g l t σ) (hB : BfU (sN σ 1) (σ.2.2.1 1) (σ.2.2.1 2)) (hx : uN (L.1 1) < t) : Tm (fun k => y_X1_placeOf k 0 L σ) (fun r => r = (nI (ctB (σ.2.2.1 1) (uN (L.1 1))), σ)) := by
  have a := in_u h hx
  refine c_placeOfP hB a.2.2.1 ?_ a.1
  rcases h.2.2.1 with z | z <;> omega
/-- a value's new handle -/
def rnm (U : Nat → Int32) (x : Int32) : Int32 := if 3 ≤ uN x ∧ uN x < 2147483648 then nI (ctB U (uN x)) else x
theorem c_markRow20 (h : HQ g l t σ) (hb : BI g l (σ.2.2.1 3) (σ.2.2.1 1)) (hN : sN σ 20 ≤ 1000000000) (hn : uN (L.1 2) ≤ sN σ 20) (hv : ∀ j, j < uN (L.1 2) → Gw g (σ.2.2.1 20 j)) : Tm (fun k => y_X1_markRow__z20 k 0 L σ) (fun r => ∃ U', r.2 = uF σ 1 U' ∧ MkU g l σ U' ∧ ∀ j, j < uN (L.1 2) → MkV U' (σ.2.2.1 20 j)) := by
  have b1 : ∀ (m : Nat) (L' : LV) (U : Nat → Int32), uN (L'.1 3) + m = uN (L.1 2) → L'.1 2 = L.1 2 → MkU g l σ U → (∀ j, j < uN (L'.1 3) → MkV U (σ.2.2.1 20 j)) → Tm (fun k => y_X1_markRow__z20 k 1 L' (uF σ 1 U)) (fun r => ∃ U', r.2 = uF σ 1 U' ∧ MkU g l σ U' ∧ ∀ j, j < uN (L.1 2) → MkV U' (σ.2.2.1 20 j)) := by
    intro m
    induction m with
    | zero =>
      intro L' U a3 a2 hU hj
      refine Tm_suc (fun k => by rw [y_X1_markRow__z20]) ?_
      refine Tm_yes (by rw [a2, u_le (by omega) (by omega)]; omega) ?_
      refine Tm_suc (fun k => by rw [y_X1_markRow__z20]) ?_
      exact Tm_some ⟨U, rfl, hU, fun j q => hj j (by omega)⟩
    | succ m ih =>
      intro L' U a3 a2 hU hj
      have b3 : ∀ U2 : Nat → Int32, MkU g l σ U2 → (∀ j, j < uN (L'.1 3) → MkV U2 (σ.2.2.1 20 j)) → MkV U2 (σ.2.2.1 20 (uN (L'.1 3))) → Tm (fun k => y_X1_markRow__z20 k 3 L' (uF σ 1 U2)) (fun r => ∃ U', r.2 = uF σ 1 U' ∧ MkU g l σ U' ∧ ∀ j, j < uN (L.1 2) → MkV U' (σ.2.2.1 20 j)) := by
        intro U2 z1 z2 z3
        refine Tm_suc (fun k => by rw [y_X1_markRow__z20]) ?_
        refine ih _ U2 ?_ a2 z1 ?_
        · show uN (L'.1 3 + 1) + m = _
          rw [u_inc (by omega)]; omega
        · show ∀ j, j < uN (L'.1 3 + 1) → MkV U2 (σ.2.2.1 20 j)
          rw [u_inc (by omega)]
          intro j q
          rcases Nat.lt_or_ge j (uN (L'.1 3)) with c | c
          · exact z2 j c
          · rw [show j = uN (L'.1 3) from by omega]
            exact z3
      have i3 : ¬ (L'.1 3 < 0 ∨ sN σ 20 ≤ (L'.1 3).toNatClampNeg) := u_in (by omega) (by omega)
      have gv := hv (uN (L'.1 3)) (by omega)
      refine Tm_suc (fun k => by rw [y_X1_markRow__z20]) ?_
      refine Tm_no (by rw [a2, u_le (by omega) (by omega)]; omega) ?_
      refine Tm_chk i3 ?_
      refine Tm_ite (fun c => ?_) (fun c => ?_)
      · refine b3 U hU hj ?_
        have c' : σ.2.2.1 20 (L'.1 3).toNatClampNeg < 3 := c
        rw [u_cl (by omega), lt_3] at c'
        exact fun p q => absurd ⟨p, q⟩ c'
      · have c' : ¬ σ.2.2.1 20 (L'.1 3).toNatClampNeg < 3 := c
        rw [u_cl (by omega), lt_3] at c'
        have c2 := Classical.not_not.1 c'
        refine Tm_chk i3 ?_
        refine Tm_oc (c_markCell (HQ_f h (k := 1) (by decide) U) hU.1 ?_ ?_ ?_) (fun r q => ?_)
        · show g (uN (σ.2.2.1 20 (L'.1 3).toNatClampNeg))
          rw [u_cl (by omega)]
          exact (Gw_c gv c2.2).2
        · show 3 ≤ uN (σ.2.2.1 20 (L'.1 3).toNatClampNeg)
          rw [u_cl (by omega)]
          exact c2.1
        · show uN (σ.2.2.1 20 (L'.1 3).toNatClampNeg) < _
          rw [u_cl (by omega)]
          exact c2.2
        · obtain ⟨U2, e, m2, q2⟩ := q
          rw [e, uF_f]
          have q3 : bI U2 (uN (σ.2.2.1 20 (L'.1 3).toNatClampNeg)) = 1 := q2
          rw [u_cl (by omega)] at q3
          exact b3 U2 (MkU_t hU m2) (fun j hj2 p q => m2.2.1 _ (hj j hj2 p q)) (fun _ _ => q3)
  refine Tm_suc (fun k => by rw [y_X1_markRow__z20]) ?_
  have e := uF_id σ 1
  have z := b1 (uN (L.1 2)) (lI L 3 0) (σ.2.2.1 1) (by show 0 + _ = _; omega) rfl ⟨hb, fun _ z => z, fun q _ z => Or.inl z⟩ (fun j hj => absurd hj (Nat.not_lt_zero j))
  rw [e] at z
  exact z
theorem c_moveRow20 (h : HQ g l t σ) (hB : BfU (sN σ 1) (σ.2.2.1 1) (σ.2.2.1 2)) (hN : sN σ 20 ≤ 1000000000) (hn : uN (L.1 2) ≤ sN σ 20) (hv : ∀ j, j < uN (L.1 2) → Gw g (σ.2.2.1 20 j)) : Tm (fun k => y_X1_moveRow__z20 k 0 L σ) (fun r => ∃ f, r.2 = uF σ 20 f ∧ (∀ j, j < uN (L.1 2) → f j = rnm (σ.2.2.1 1) (σ.2.2.1 20 j)) ∧ ∀ j, uN (L.1 2) ≤ j → f j = σ.2.2.1 20 j) := by
  have b1 : ∀ (m : Nat) (L' : LV) (f : Nat → Int32), uN (L'.1 3) + m = uN (L.1 2) → L'.1 2 = L.1 2 → (∀ j, j < uN (L'.1 3) → f j = rnm (σ.2.2.1 1) (σ.2.2.1 20 j)) → (∀ j, uN (L'.1 3) ≤ j → f j = σ.2.2.1 20 j) → Tm (fun k => y_X1_moveRow__z20 k 1 L' (uF σ 20 f)) (fun r => ∃ f, r.2 = uF σ 20 f ∧ (∀ j, j < uN (L.1 2) → f j = rnm (σ.2.2.1 1) (σ.2.2.1 20 j)) ∧ ∀ j, uN (L.1 2) ≤ j → f j = σ.2.2.1 20 j) := by
    intro m
    induction m with
    | zero =>
      intro L' f a3 a2 h1 h2
      refine Tm_suc (fun k => by rw [y_X1_moveRow__z20]) ?_
      refine Tm_yes (by rw [a2, u_le (by omega) (by omega)]; omega) ?_
      refine Tm_suc (fun k => by rw [y_X1_moveRow__z20]) ?_
      exact Tm_some ⟨f, rfl, fun j q => h1 j (by omega), fun j q => h2 j (by omega)⟩
    | succ m ih =>
      intro L' f a3 a2 h1 h2
      have b3 : ∀ f2 : Nat → Int32, (∀ j, j < uN (L'.1 3) + 1 → f2 j = rnm (σ.2.2.1 1) (σ.2.2.1 20 j)) → (∀ j, uN (L'.1 3) + 1 ≤ j → f2 j = σ.2.2.1 20 j) → Tm (fun k => y_X1_moveRow__z20 k 3 L' (uF σ 20 f2)) (fun r => ∃ f, r.2 = uF σ 20 f ∧ (∀ j, j < uN (L.1 2) → f j = rnm (σ.2.2.1 1) (σ.2.2.1 20 j)) ∧ ∀ j, uN (L.1 2) ≤ j → f j = σ.2.2.1 20 j) := by
        intro f2 z1 z2
        refine Tm_suc (fun k => by rw [y_X1_moveRow__z20]) ?_
        refine ih _ f2 ?_ a2 ?_ ?_
        · show uN (L'.1 3 + 1) + m = _
          rw [u_inc (by omega)]; omega
        · show ∀ j, j < uN (L'.1 3 + 1) → _
          rw [u_inc (by omega)]
          exact z1
        · show ∀ j, uN (L'.1 3 + 1) ≤ j → _
          rw [u_inc (by omega)]
          exact z2
      have i3 : ¬ (L'.1 3 < 0 ∨ sN σ 20 ≤ (L'.1 3).toNatClampNeg) := u_in (by omega) (by omega)
      have gv := hv (uN (L'.1 3)) (by omega)
      have ef : (uF σ 20 f).2.2.1 20 (L'.1 3).toNatClampNeg = σ.2.2.1 20 (uN (L'.1 3)) := by
        show f (L'.1 3).toNatClampNeg = _
        rw [u_cl (by omega)]
        exact h2 _ (Nat.le_refl _)
      refine Tm_suc (fun k => by rw [y_X1_moveRow__z20]) ?_
      refine Tm_no (by rw [a2, u_le (by omega) (by omega)]; omega) ?_
      refine Tm_chk i3 ?_
      rw [ef]
      refine Tm_ite (fun c => ?_) (fun c => ?_)
      · rw [lt_3] at c
        refine b3 f ?_ (fun j hj => h2 j (by omega))
        intro j hj
        rcases Nat.lt_or_ge j (uN (L'.1 3)) with d | d
        · exact h1 j d
        · have ej : j = uN (L'.1 3) := by omega
          rw [h2 j d, ej]
          exact (if_neg c).symm
      · rw [lt_3] at c
        have c2 := Classical.not_not.1 c
        refine Tm_chk i3 ?_
        have gc := HQ_c h (Gw_c gv c2.2).2
        refine Tm_ocE (c_placeOfH (HQ_f h (k := 20) (by decide) f) hB gc.1) ?_
        refine Tm_chk i3 ?_
        rw [uF_a]
        refine b3 _ ?_ ?_
        · intro j hj
          show upd f (L'.1 3).toNatClampNeg (nI (ctB (σ.2.2.1 1) (uN (σ.2.2.1 20 (uN (L'.1 3)))))) j = _
          rw [u_cl (by omega)]
          by_cases d : j = uN (L'.1 3)
          · rw [d, upd_same]
            exact (if_pos c2).symm
          · rw [upd_other d]
            exact h1 j (by omega)
        · intro j hj
          show upd f (L'.1 3).toNatClampNeg _ j = _
          rw [u_cl (by omega), upd_other (by omega)]
          exact h2 j (by omega)
  refine Tm_suc (fun k => by rw [y_X1_moveRow__z20]) ?_
  have e := uF_id σ 20
  have z := b1 (uN (L.1 2)) (lI L 3 0) (σ.2.2.1 20) (by show 0 + _ = _; omega) rfl (fun j hj => absurd hj (Nat.not_lt_zero j)) (fun _ _ => rfl)
  rw [e] at z
  exact z
theorem c_markRow23 (h : HQ g l t σ) (hb : BI g l (σ.2.2.1 3) (σ.2.2.1 1)) (hN : 3780 ≤ 1000000000) (hn : uN (L.1 2) ≤ 3780) (hv : ∀ j, j < uN (L.1 2) → Gw g (σ.2.2.1 23 j)) : Tm (fun k => y_X1_markRow__a23 k 0 L σ) (fun r => ∃ U', r.2 = uF σ 1 U' ∧ MkU g l σ U' ∧ ∀ j, j < uN (L.1 2) → MkV U' (σ.2.2.1 23 j)) := by
  have b1 : ∀ (m : Nat) (L' : LV) (U : Nat → Int32), uN (L'.1 3) + m = uN (L.1 2) → L'.1 2 = L.1 2 → MkU g l σ U → (∀ j, j < uN (L'.1 3) → MkV U (σ.2.2.1 23 j)) → Tm (fun k => y_X1_markRow__a23 k 1 L' (uF σ 1 U)) (fun r => ∃ U', r.2 = uF σ 1 U' ∧ MkU g l σ U' ∧ ∀ j, j < uN (L.1 2) → MkV U' (σ.2.2.1 23 j)) := by
    intro m
    induction m with
    | zero =>
      intro L' U a3 a2 hU hj
      refine Tm_suc (fun k => by rw [y_X1_markRow__a23]) ?_
      refine Tm_yes (by rw [a2, u_le (by omega) (by omega)]; omega) ?_
      refine Tm_suc (fun k => by rw [y_X1_markRow__a23]) ?_
      exact Tm_some ⟨U, rfl, hU, fun j q => hj j (by omega)⟩
    | succ m ih =>
      intro L' U a3 a2 hU hj
      have b3 : ∀ U2 : Nat → Int32, MkU g l σ U2 → (∀ j, j < uN (L'.1 3) → MkV U2 (σ.2.2.1 23 j)) → MkV U2 (σ.2.2.1 23 (uN (L'.1 3))) → Tm (fun k => y_X1_markRow__a23 k 3 L' (uF σ 1 U2)) (fun r => ∃ U', r.2 = uF σ 1 U' ∧ MkU g l σ U' ∧ ∀ j, j < uN (L.1 2) → MkV U' (σ.2.2.1 23 j)) := by
        intro U2 z1 z2 z3
        refine Tm_suc (fun k => by rw [y_X1_markRow__a23]) ?_
        refine ih _ U2 ?_ a2 z1 ?_
        · show uN (L'.1 3 + 1) + m = _
          rw [u_inc (by omega)]; omega
        · show ∀ j, j < uN (L'.1 3 + 1) → MkV U2 (σ.2.2.1 23 j)
          rw [u_inc (by omega)]
          intro j q
          rcases Nat.lt_or_ge j (uN (L'.1 3)) with c | c
          · exact z2 j c
          · rw [show j = uN (L'.1 3) from by omega]
            exact z3
      have i3 : ¬ (L'.1 3 < 0 ∨ 3780 ≤ (L'.1 3).toNatClampNeg) := u_in (by omega) (by omega)
      have gv := hv (uN (L'.1 3)) (by omega)
      refine Tm_suc (fun k => by rw [y_X1_markRow__a23]) ?_
      refine Tm_no (by rw [a2, u_le (by omega) (by omega)]; omega) ?_
      refine Tm_chk i3 ?_
      refine Tm_ite (fun c => ?_) (fun c => ?_)
      · refine b3 U hU hj ?_
        have c' : σ.2.2.1 23 (L'.1 3).toNatClampNeg < 3 := c
        rw [u_cl (by omega), lt_3] at c'
        exact fun p q => absurd ⟨p, q⟩ c'
      · have c' : ¬ σ.2.2.1 23 (L'.1 3).toNatClampNeg < 3 := c
        rw [u_cl (by omega), lt_3] at c'
        have c2 := Classical.not_not.1 c'
        refine Tm_chk i3 ?_
        refine Tm_oc (c_markCell (HQ_f h (k := 1) (by decide) U) hU.1 ?_ ?_ ?_) (fun r q => ?_)
        · show g (uN (σ.2.2.1 23 (L'.1 3).toNatClampNeg))
          rw [u_cl (by omega)]
          exact (Gw_c gv c2.2).2
        · show 3 ≤ uN (σ.2.2.1 23 (L'.1 3).toNatClampNeg)
          rw [u_cl (by omega)]
          exact c2.1
        · show uN (σ.2.2.1 23 (L'.1 3).toNatClampNeg) < _
          rw [u_cl (by omega)]
          exact c2.2
        · obtain ⟨U2, e, m2, q2⟩ := q
          rw [e, uF_f]
          have q3 : bI U2 (uN (σ.2.2.1 23 (L'.1 3).toNatClampNeg)) = 1 := q2
          rw [u_cl (by omega)] at q3
          exact b3 U2 (MkU_t hU m2) (fun j hj2 p q => m2.2.1 _ (hj j hj2 p q)) (fun _ _ => q3)
  refine Tm_suc (fun k => by rw [y_X1_markRow__a23]) ?_
  have e := uF_id σ 1
  have z := b1 (uN (L.1 2)) (lI L 3 0) (σ.2.2.1 1) (by show 0 + _ = _; omega) rfl ⟨hb, fun _ z => z, fun q _ z => Or.inl z⟩ (fun j hj => absurd hj (Nat.not_lt_zero j))
  rw [e] at z
  exact z
theorem c_moveRow23 (h : HQ g l t σ) (hB : BfU (sN σ 1) (σ.2.2.1 1) (σ.2.2.1 2)) (hN : 3780 ≤ 1000000000) (hn : uN (L.1 2) ≤ 3780) (hv : ∀ j, j < uN (L.1 2) → Gw g (σ.2.2.1 23 j)) : Tm (fun k => y_X1_moveRow__a23 k 0 L σ) (fun r => ∃ f, r.2 = uF σ 23 f ∧ (∀ j, j < uN (L.1 2) → f j = rnm (σ.2.2.1 1) (σ.2.2.1 23 j)) ∧ ∀ j, uN (L.1 2) ≤ j → f j = σ.2.2.1 23 j) := by
  have b1 : ∀ (m : Nat) (L' : LV) (f : Nat → Int32), uN (L'.1 3) + m = uN (L.1 2) → L'.1 2 = L.1 2 → (∀ j, j < uN (L'.1 3) → f j = rnm (σ.2.2.1 1) (σ.2.2.1 23 j)) → (∀ j, uN (L'.1 3) ≤ j → f j = σ.2.2.1 23 j) → Tm (fun k => y_X1_moveRow__a23 k 1 L' (uF σ 23 f)) (fun r => ∃ f, r.2 = uF σ 23 f ∧ (∀ j, j < uN (L.1 2) → f j = rnm (σ.2.2.1 1) (σ.2.2.1 23 j)) ∧ ∀ j, uN (L.1 2) ≤ j → f j = σ.2.2.1 23 j) := by
    intro m
    induction m with
    | zero =>
      intro L' f a3 a2 h1 h2
      refine Tm_suc (fun k => by rw [y_X1_moveRow__a23]) ?_
      refine Tm_yes (by rw [a2, u_le (by omega) (by omega)]; omega) ?_
      refine Tm_suc (fun k => by rw [y_X1_moveRow__a23]) ?_
      exact Tm_some ⟨f, rfl, fun j q => h1 j (by omega), fun j q => h2 j (by omega)⟩
    | succ m ih =>
      intro L' f a3 a2 h1 h2
      have b3 : ∀ f2 : Nat → Int32, (∀ j, j < uN (L'.1 3) + 1 → f2 j = rnm (σ.2.2.1 1) (σ.2.2.1 23 j)) → (∀ j, uN (L'.1 3) + 1 ≤ j → f2 j = σ.2.2.1 23 j) → Tm (fun k => y_X1_moveRow__a23 k 3 L' (uF σ 23 f2)) (fun r => ∃ f, r.2 = uF σ 23 f ∧ (∀ j, j < uN (L.1 2) → f j = rnm (σ.2.2.1 1) (σ.2.2.1 23 j)) ∧ ∀ j, uN (L.1 2) ≤ j → f j = σ.2.2.1 23 j) := by
        intro f2 z1 z2
        refine Tm_suc (fun k => by rw [y_X1_moveRow__a23]) ?_
        refine ih _ f2 ?_ a2 ?_ ?_
        · show uN (L'.1 3 + 1) + m = _
          rw [u_inc (by omega)]; omega
        · show ∀ j, j < uN (L'.1 3 + 1) → _
          rw [u_inc (by omega)]
          exact z1
        · show ∀ j, uN (L'.1 3 + 1) ≤ j → _
          rw [u_inc (by omega)]
          exact z2
      have i3 : ¬ (L'.1 3 < 0 ∨ 3780 ≤ (L'.1 3).toNatClampNeg) := u_in (by omega) (by omega)
      have gv := hv (uN (L'.1 3)) (by omega)
      have ef : (uF σ 23 f).2.2.1 23 (L'.1 3).toNatClampNeg = σ.2.2.1 23 (uN (L'.1 3)) := by
        show f (L'.1 3).toNatClampNeg = _
        rw [u_cl (by omega)]
        exact h2 _ (Nat.le_refl _)
      refine Tm_suc (fun k => by rw [y_X1_moveRow__a23]) ?_
      refine Tm_no (by rw [a2, u_le (by omega) (by omega)]; omega) ?_
      refine Tm_chk i3 ?_
      rw [ef]
      refine Tm_ite (fun c => ?_) (fun c => ?_)
      · rw [lt_3] at c
        refine b3 f ?_ (fun j hj => h2 j (by omega))
        intro j hj
        rcases Nat.lt_or_ge j (uN (L'.1 3)) with d | d
        · exact h1 j d
        · have ej : j = uN (L'.1 3) := by omega
          rw [h2 j d, ej]
          exact (if_neg c).symm
      · rw [lt_3] at c
        have c2 := Classical.not_not.1 c
        refine Tm_chk i3 ?_
        have gc := HQ_c h (Gw_c gv c2.2).2
        refine Tm_ocE (c_placeOfH (HQ_f h (k := 23) (by decide) f) hB gc.1) ?_
        refine Tm_chk i3 ?_
        rw [uF_a]
        refine b3 _ ?_ ?_
        · intro j hj
          show upd f (L'.1 3).toNatClampNeg (nI (ctB (σ.2.2.1 1) (uN (σ.2.2.1 23 (uN (L'.1 3)))))) j = _
          rw [u_cl (by omega)]
          by_cases d : j = uN (L'.1 3)
          · rw [d, upd_same]
            exact (if_pos c2).symm
          · rw [upd_other d]
            exact h1 j (by omega)
        · intro j hj
          show upd f (L'.1 3).toNatClampNeg _ j = _
          rw [u_cl (by omega), upd_other (by omega)]
          exact h2 j (by omega)
  refine Tm_suc (fun k => by rw [y_X1_moveRow__a23]) ?_
  have e := uF_id σ 23
  have z := b1 (uN (L.1 2)) (lI L 3 0) (σ.2.2.1 23) (by show 0 + _ = _; omega) rfl (fun j hj => absurd hj (Nat.not_lt_zero j)) (fun _ _ => rfl)
  rw [e] at z
  exact z
theorem c_markRow21 (h : HQ g l t σ) (hb : BI g l (σ.2.2.1 3) (σ.2.2.1 1)) (hN : sN σ 21 ≤ 1000000000) (hn : uN (L.1 2) ≤ sN σ 21) (hv : ∀ j, j < uN (L.1 2) → Gw g (σ.2.2.1 21 j)) : Tm (fun k => y_X1_markRow__z21 k 0 L σ) (fun r => ∃ U', r.2 = uF σ 1 U' ∧ MkU g l σ U' ∧ ∀ j, j < uN (L.1 2) → MkV U' (σ.2.2.1 21 j)) := by
  have b1 : ∀ (m : Nat) (L' : LV) (U : Nat → Int32), uN (L'.1 3) + m = uN (L.1 2) → L'.1 2 = L.1 2 → MkU g l σ U → (∀ j, j < uN (L'.1 3) → MkV U (σ.2.2.1 21 j)) → Tm (fun k => y_X1_markRow__z21 k 1 L' (uF σ 1 U)) (fun r => ∃ U', r.2 = uF σ 1 U' ∧ MkU g l σ U' ∧ ∀ j, j < uN (L.1 2) → MkV U' (σ.2.2.1 21 j)) := by
    intro m
    induction m with
    | zero =>
      intro L' U a3 a2 hU hj
      refine Tm_suc (fun k => by rw [y_X1_markRow__z21]) ?_
      refine Tm_yes (by rw [a2, u_le (by omega) (by omega)]; omega) ?_
      refine Tm_suc (fun k => by rw [y_X1_markRow__z21]) ?_
      exact Tm_some ⟨U, rfl, hU, fun j q => hj j (by omega)⟩
    | succ m ih =>
      intro L' U a3 a2 hU hj
      have b3 : ∀ U2 : Nat → Int32, MkU g l σ U2 → (∀ j, j < uN (L'.1 3) → MkV U2 (σ.2.2.1 21 j)) → MkV U2 (σ.2.2.1 21 (uN (L'.1 3))) → Tm (fun k => y_X1_markRow__z21 k 3 L' (uF σ 1 U2)) (fun r => ∃ U', r.2 = uF σ 1 U' ∧ MkU g l σ U' ∧ ∀ j, j < uN (L.1 2) → MkV U' (σ.2.2.1 21 j)) := by
        intro U2 z1 z2 z3
        refine Tm_suc (fun k => by rw [y_X1_markRow__z21]) ?_
        refine ih _ U2 ?_ a2 z1 ?_
        · show uN (L'.1 3 + 1) + m = _
          rw [u_inc (by omega)]; omega
        · show ∀ j, j < uN (L'.1 3 + 1) → MkV U2 (σ.2.2.1 21 j)
          rw [u_inc (by omega)]
          intro j q
          rcases Nat.lt_or_ge j (uN (L'.1 3)) with c | c
          · exact z2 j c
          · rw [show j = uN (L'.1 3) from by omega]
            exact z3
      have i3 : ¬ (L'.1 3 < 0 ∨ sN σ 21 ≤ (L'.1 3).toNatClampNeg) := u_in (by omega) (by omega)
      have gv := hv (uN (L'.1 3)) (by omega)
      refine Tm_suc (fun k => by rw [y_X1_markRow__z21]) ?_
      refine Tm_no (by rw [a2, u_le (by omega) (by omega)]; omega) ?_
      refine Tm_chk i3 ?_
      refine Tm_ite (fun c => ?_) (fun c => ?_)
      · refine b3 U hU hj ?_
        have c' : σ.2.2.1 21 (L'.1 3).toNatClampNeg < 3 := c
        rw [u_cl (by omega), lt_3] at c'
        exact fun p q => absurd ⟨p, q⟩ c'
      · have c' : ¬ σ.2.2.1 21 (L'.1 3).toNatClampNeg < 3 := c
        rw [u_cl (by omega), lt_3] at c'
        have c2 := Classical.not_not.1 c'
        refine Tm_chk i3 ?_
        refine Tm_oc (c_markCell (HQ_f h (k := 1) (by decide) U) hU.1 ?_ ?_ ?_) (fun r q => ?_)
        · show g (uN (σ.2.2.1 21 (L'.1 3).toNatClampNeg))
          rw [u_cl (by omega)]
          exact (Gw_c gv c2.2).2
        · show 3 ≤ uN (σ.2.2.1 21 (L'.1 3).toNatClampNeg)
          rw [u_cl (by omega)]
          exact c2.1
        · show uN (σ.2.2.1 21 (L'.1 3).toNatClampNeg) < _
          rw [u_cl (by omega)]
          exact c2.2
        · obtain ⟨U2, e, m2, q2⟩ := q
          rw [e, uF_f]
          have q3 : bI U2 (uN (σ.2.2.1 21 (L'.1 3).toNatClampNeg)) = 1 := q2
          rw [u_cl (by omega)] at q3
          exact b3 U2 (MkU_t hU m2) (fun j hj2 p q => m2.2.1 _ (hj j hj2 p q)) (fun _ _ => q3)
  refine Tm_suc (fun k => by rw [y_X1_markRow__z21]) ?_
  have e := uF_id σ 1
  have z := b1 (uN (L.1 2)) (lI L 3 0) (σ.2.2.1 1) (by show 0 + _ = _; omega) rfl ⟨hb, fun _ z => z, fun q _ z => Or.inl z⟩ (fun j hj => absurd hj (Nat.not_lt_zero j))
  rw [e] at z
  exact z
theorem c_moveRow21 (h : HQ g l t σ) (hB : BfU (sN σ 1) (σ.2.2.1 1) (σ.2.2.1 2)) (hN : sN σ 21 ≤ 1000000000) (hn : uN (L.1 2) ≤ sN σ 21) (hv : ∀ j, j < uN (L.1 2) → Gw g (σ.2.2.1 21 j)) : Tm (fun k => y_X1_moveRow__z21 k 0 L σ) (fun r => ∃ f, r.2 = uF σ 21 f ∧ (∀ j, j < uN (L.1 2) → f j = rnm (σ.2.2.1 1) (σ.2.2.1 21 j)) ∧ ∀ j, uN (L.1 2) ≤ j → f j = σ.2.2.1 21 j) := by
  have b1 : ∀ (m : Nat) (L' : LV) (f : Nat → Int32), uN (L'.1 3) + m = uN (L.1 2) → L'.1 2 = L.1 2 → (∀ j, j < uN (L'.1 3) → f j = rnm (σ.2.2.1 1) (σ.2.2.1 21 j)) → (∀ j, uN (L'.1 3) ≤ j → f j = σ.2.2.1 21 j) → Tm (fun k => y_X1_moveRow__z21 k 1 L' (uF σ 21 f)) (fun r => ∃ f, r.2 = uF σ 21 f ∧ (∀ j, j < uN (L.1 2) → f j = rnm (σ.2.2.1 1) (σ.2.2.1 21 j)) ∧ ∀ j, uN (L.1 2) ≤ j → f j = σ.2.2.1 21 j) := by
    intro m
    induction m with
    | zero =>
      intro L' f a3 a2 h1 h2
      refine Tm_suc (fun k => by rw [y_X1_moveRow__z21]) ?_
      refine Tm_yes (by rw [a2, u_le (by omega) (by omega)]; omega) ?_
      refine Tm_suc (fun k => by rw [y_X1_moveRow__z21]) ?_
      exact Tm_some ⟨f, rfl, fun j q => h1 j (by omega), fun j q => h2 j (by omega)⟩
    | succ m ih =>
      intro L' f a3 a2 h1 h2
      have b3 : ∀ f2 : Nat → Int32, (∀ j, j < uN (L'.1 3) + 1 → f2 j = rnm (σ.2.2.1 1) (σ.2.2.1 21 j)) → (∀ j, uN (L'.1 3) + 1 ≤ j → f2 j = σ.2.2.1 21 j) → Tm (fun k => y_X1_moveRow__z21 k 3 L' (uF σ 21 f2)) (fun r => ∃ f, r.2 = uF σ 21 f ∧ (∀ j, j < uN (L.1 2) → f j = rnm (σ.2.2.1 1) (σ.2.2.1 21 j)) ∧ ∀ j, uN (L.1 2) ≤ j → f j = σ.2.2.1 21 j) := by
        intro f2 z1 z2
        refine Tm_suc (fun k => by rw [y_X1_moveRow__z21]) ?_
        refine ih _ f2 ?_ a2 ?_ ?_
        · show uN (L'.1 3 + 1) + m = _
          rw [u_inc (by omega)]; omega
        · show ∀ j, j < uN (L'.1 3 + 1) → _
          rw [u_inc (by omega)]
          exact z1
        · show ∀ j, uN (L'.1 3 + 1) ≤ j → _
          rw [u_inc (by omega)]
          exact z2
      have i3 : ¬ (L'.1 3 < 0 ∨ sN σ 21 ≤ (L'.1 3).toNatClampNeg) := u_in (by omega) (by omega)
      have gv := hv (uN (L'.1 3)) (by omega)
      have ef : (uF σ 21 f).2.2.1 21 (L'.1 3).toNatClampNeg = σ.2.2.1 21 (uN (L'.1 3)) := by
        show f (L'.1 3).toNatClampNeg = _
        rw [u_cl (by omega)]
        exact h2 _ (Nat.le_refl _)
      refine Tm_suc (fun k => by rw [y_X1_moveRow__z21]) ?_
      refine Tm_no (by rw [a2, u_le (by omega) (by omega)]; omega) ?_
      refine Tm_chk i3 ?_
      rw [ef]
      refine Tm_ite (fun c => ?_) (fun c => ?_)
      · rw [lt_3] at c
        refine b3 f ?_ (fun j hj => h2 j (by omega))
        intro j hj
        rcases Nat.lt_or_ge j (uN (L'.1 3)) with d | d
        · exact h1 j d
        · have ej : j = uN (L'.1 3) := by omega
          rw [h2 j d, ej]
          exact (if_neg c).symm
      · rw [lt_3] at c
        have c2 := Classical.not_not.1 c
        refine Tm_chk i3 ?_
        have gc := HQ_c h (Gw_c gv c2.2).2
        refine Tm_ocE (c_placeOfH (HQ_f h (k := 21) (by decide) f) hB gc.1) ?_
        refine Tm_chk i3 ?_
        rw [uF_a]
        refine b3 _ ?_ ?_
        · intro j hj
          show upd f (L'.1 3).toNatClampNeg (nI (ctB (σ.2.2.1 1) (uN (σ.2.2.1 21 (uN (L'.1 3)))))) j = _
          rw [u_cl (by omega)]
          by_cases d : j = uN (L'.1 3)
          · rw [d, upd_same]
            exact (if_pos c2).symm
          · rw [upd_other d]
            exact h1 j (by omega)
        · intro j hj
          show upd f (L'.1 3).toNatClampNeg _ j = _
          rw [u_cl (by omega), upd_other (by omega)]
          exact h2 j (by omega)
  refine Tm_suc (fun k => by rw [y_X1_moveRow__z21]) ?_
  have e := uF_id σ 21
  have z := b1 (uN (L.1 2)) (lI L 3 0) (σ.2.2.1 21) (by show 0 + _ = _; omega) rfl (fun j hj => absurd hj (Nat.not_lt_zero j)) (fun _ _ => rfl)
  rw [e] at z
  exact z
theorem c_markRow67 (h : HQ g l t σ) (hb : BI g l (σ.2.2.1 3) (σ.2.2.1 1)) (hN : 27 ≤ 1000000000) (hn : uN (L.1 2) ≤ 27) (hv : ∀ j, j < uN (L.1 2) → Gw g (σ.2.2.1 67 j)) : Tm (fun k => y_X1_markRow__a67 k 0 L σ) (fun r => ∃ U', r.2 = uF σ 1 U' ∧ MkU g l σ U' ∧ ∀ j, j < uN (L.1 2) → MkV U' (σ.2.2.1 67 j)) := by
  have b1 : ∀ (m : Nat) (L' : LV) (U : Nat → Int32), uN (L'.1 3) + m = uN (L.1 2) → L'.1 2 = L.1 2 → MkU g l σ U → (∀ j, j < uN (L'.1 3) → MkV U (σ.2.2.1 67 j)) → Tm (fun k => y_X1_markRow__a67 k 1 L' (uF σ 1 U)) (fun r => ∃ U', r.2 = uF σ 1 U' ∧ MkU g l σ U' ∧ ∀ j, j < uN (L.1 2) → MkV U' (σ.2.2.1 67 j)) := by
    intro m
    induction m with
    | zero =>
      intro L' U a3 a2 hU hj
      refine Tm_suc (fun k => by rw [y_X1_markRow__a67]) ?_
      refine Tm_yes (by rw [a2, u_le (by omega) (by omega)]; omega) ?_
      refine Tm_suc (fun k => by rw [y_X1_markRow__a67]) ?_
      exact Tm_some ⟨U, rfl, hU, fun j q => hj j (by omega)⟩
    | succ m ih =>
      intro L' U a3 a2 hU hj
      have b3 : ∀ U2 : Nat → Int32, MkU g l σ U2 → (∀ j, j < uN (L'.1 3) → MkV U2 (σ.2.2.1 67 j)) → MkV U2 (σ.2.2.1 67 (uN (L'.1 3))) → Tm (fun k => y_X1_markRow__a67 k 3 L' (uF σ 1 U2)) (fun r => ∃ U', r.2 = uF σ 1 U' ∧ MkU g l σ U' ∧ ∀ j, j < uN (L.1 2) → MkV U' (σ.2.2.1 67 j)) := by
        intro U2 z1 z2 z3
        refine Tm_suc (fun k => by rw [y_X1_markRow__a67]) ?_
        refine ih _ U2 ?_ a2 z1 ?_
        · show uN (L'.1 3 + 1) + m = _
          rw [u_inc (by omega)]; omega
        · show ∀ j, j < uN (L'.1 3 + 1) → MkV U2 (σ.2.2.1 67 j)
          rw [u_inc (by omega)]
          intro j q
          rcases Nat.lt_or_ge j (uN (L'.1 3)) with c | c
          · exact z2 j c
          · rw [show j = uN (L'.1 3) from by omega]
            exact z3
      have i3 : ¬ (L'.1 3 < 0 ∨ 27 ≤ (L'.1 3).toNatClampNeg) := u_in (by omega) (by omega)
      have gv := hv (uN (L'.1 3)) (by omega)
      refine Tm_suc (fun k => by rw [y_X1_markRow__a67]) ?_
      refine Tm_no (by rw [a2, u_le (by omega) (by omega)]; omega) ?_
      refine Tm_chk i3 ?_
      refine Tm_ite (fun c => ?_) (fun c => ?_)
      · refine b3 U hU hj ?_
        have c' : σ.2.2.1 67 (L'.1 3).toNatClampNeg < 3 := c
        rw [u_cl (by omega), lt_3] at c'
        exact fun p q => absurd ⟨p, q⟩ c'
      · have c' : ¬ σ.2.2.1 67 (L'.1 3).toNatClampNeg < 3 := c
        rw [u_cl (by omega), lt_3] at c'
        have c2 := Classical.not_not.1 c'
        refine Tm_chk i3 ?_
        refine Tm_oc (c_markCell (HQ_f h (k := 1) (by decide) U) hU.1 ?_ ?_ ?_) (fun r q => ?_)
        · show g (uN (σ.2.2.1 67 (L'.1 3).toNatClampNeg))
          rw [u_cl (by omega)]
          exact (Gw_c gv c2.2).2
        · show 3 ≤ uN (σ.2.2.1 67 (L'.1 3).toNatClampNeg)
          rw [u_cl (by omega)]
          exact c2.1
        · show uN (σ.2.2.1 67 (L'.1 3).toNatClampNeg) < _
          rw [u_cl (by omega)]
          exact c2.2
        · obtain ⟨U2, e, m2, q2⟩ := q
          rw [e, uF_f]
          have q3 : bI U2 (uN (σ.2.2.1 67 (L'.1 3).toNatClampNeg)) = 1 := q2
          rw [u_cl (by omega)] at q3
          exact b3 U2 (MkU_t hU m2) (fun j hj2 p q => m2.2.1 _ (hj j hj2 p q)) (fun _ _ => q3)
  refine Tm_suc (fun k => by rw [y_X1_markRow__a67]) ?_
  have e := uF_id σ 1
  have z := b1 (uN (L.1 2)) (lI L 3 0) (σ.2.2.1 1) (by show 0 + _ = _; omega) rfl ⟨hb, fun _ z => z, fun q _ z => Or.inl z⟩ (fun j hj => absurd hj (Nat.not_lt_zero j))
  rw [e] at z
  exact z
theorem c_moveRow67 (h : HQ g l t σ) (hB : BfU (sN σ 1) (σ.2.2.1 1) (σ.2.2.1 2)) (hN : 27 ≤ 1000000000) (hn : uN (L.1 2) ≤ 27) (hv : ∀ j, j < uN (L.1 2) → Gw g (σ.2.2.1 67 j)) : Tm (fun k => y_X1_moveRow__a67 k 0 L σ) (fun r => ∃ f, r.2 = uF σ 67 f ∧ (∀ j, j < uN (L.1 2) → f j = rnm (σ.2.2.1 1) (σ.2.2.1 67 j)) ∧ ∀ j, uN (L.1 2) ≤ j → f j = σ.2.2.1 67 j) := by
  have b1 : ∀ (m : Nat) (L' : LV) (f : Nat → Int32), uN (L'.1 3) + m = uN (L.1 2) → L'.1 2 = L.1 2 → (∀ j, j < uN (L'.1 3) → f j = rnm (σ.2.2.1 1) (σ.2.2.1 67 j)) → (∀ j, uN (L'.1 3) ≤ j → f j = σ.2.2.1 67 j) → Tm (fun k => y_X1_moveRow__a67 k 1 L' (uF σ 67 f)) (fun r => ∃ f, r.2 = uF σ 67 f ∧ (∀ j, j < uN (L.1 2) → f j = rnm (σ.2.2.1 1) (σ.2.2.1 67 j)) ∧ ∀ j, uN (L.1 2) ≤ j → f j = σ.2.2.1 67 j) := by
    intro m
    induction m with
    | zero =>
      intro L' f a3 a2 h1 h2
      refine Tm_suc (fun k => by rw [y_X1_moveRow__a67]) ?_
      refine Tm_yes (by rw [a2, u_le (by omega) (by omega)]; omega) ?_
      refine Tm_suc (fun k => by rw [y_X1_moveRow__a67]) ?_
      exact Tm_some ⟨f, rfl, fun j q => h1 j (by omega), fun j q => h2 j (by omega)⟩
    | succ m ih =>
      intro L' f a3 a2 h1 h2
      have b3 : ∀ f2 : Nat → Int32, (∀ j, j < uN (L'.1 3) + 1 → f2 j = rnm (σ.2.2.1 1) (σ.2.2.1 67 j)) → (∀ j, uN (L'.1 3) + 1 ≤ j → f2 j = σ.2.2.1 67 j) → Tm (fun k => y_X1_moveRow__a67 k 3 L' (uF σ 67 f2)) (fun r => ∃ f, r.2 = uF σ 67 f ∧ (∀ j, j < uN (L.1 2) → f j = rnm (σ.2.2.1 1) (σ.2.2.1 67 j)) ∧ ∀ j, uN (L.1 2) ≤ j → f j = σ.2.2.1 67 j) := by
        intro f2 z1 z2
        refine Tm_suc (fun k => by rw [y_X1_moveRow__a67]) ?_
        refine ih _ f2 ?_ a2 ?_ ?_
        · show uN (L'.1 3 + 1) + m = _
          rw [u_inc (by omega)]; omega
        · show ∀ j, j < uN (L'.1 3 + 1) → _
          rw [u_inc (by omega)]
          exact z1
        · show ∀ j, uN (L'.1 3 + 1) ≤ j → _
          rw [u_inc (by omega)]
          exact z2
      have i3 : ¬ (L'.1 3 < 0 ∨ 27 ≤ (L'.1 3).toNatClampNeg) := u_in (by omega) (by omega)
      have gv := hv (uN (L'.1 3)) (by omega)
      have ef : (uF σ 67 f).2.2.1 67 (L'.1 3).toNatClampNeg = σ.2.2.1 67 (uN (L'.1 3)) := by
        show f (L'.1 3).toNatClampNeg = _
        rw [u_cl (by omega)]
        exact h2 _ (Nat.le_refl _)
      refine Tm_suc (fun k => by rw [y_X1_moveRow__a67]) ?_
      refine Tm_no (by rw [a2, u_le (by omega) (by omega)]; omega) ?_
      refine Tm_chk i3 ?_
      rw [ef]
      refine Tm_ite (fun c => ?_) (fun c => ?_)
      · rw [lt_3] at c
        refine b3 f ?_ (fun j hj => h2 j (by omega))
        intro j hj
        rcases Nat.lt_or_ge j (uN (L'.1 3)) with d | d
        · exact h1 j d
        · have ej : j = uN (L'.1 3) := by omega
          rw [h2 j d, ej]
          exact (if_neg c).symm
      · rw [lt_3] at c
        have c2 := Classical.not_not.1 c
        refine Tm_chk i3 ?_
        have gc := HQ_c h (Gw_c gv c2.2).2
        refine Tm_ocE (c_placeOfH (HQ_f h (k := 67) (by decide) f) hB gc.1) ?_
        refine Tm_chk i3 ?_
        rw [uF_a]
        refine b3 _ ?_ ?_
        · intro j hj
          show upd f (L'.1 3).toNatClampNeg (nI (ctB (σ.2.2.1 1) (uN (σ.2.2.1 67 (uN (L'.1 3)))))) j = _
          rw [u_cl (by omega)]
          by_cases d : j = uN (L'.1 3)
          · rw [d, upd_same]
            exact (if_pos c2).symm
          · rw [upd_other d]
            exact h1 j (by omega)
        · intro j hj
          show upd f (L'.1 3).toNatClampNeg _ j = _
          rw [u_cl (by omega), upd_other (by omega)]
          exact h2 j (by omega)
  refine Tm_suc (fun k => by rw [y_X1_moveRow__a67]) ?_
  have e := uF_id σ 67
  have z := b1 (uN (L.1 2)) (lI L 3 0) (σ.2.2.1 67) (by show 0 + _ = _; omega) rfl (fun j hj => absurd hj (Nat.not_lt_zero j)) (fun _ _ => rfl)
  rw [e] at z
  exact z
theorem c_markRow26 (h : HQ g l t σ) (hb : BI g l (σ.2.2.1 3) (σ.2.2.1 1)) (hN : sN σ 26 ≤ 1000000000) (hn : uN (L.1 2) ≤ sN σ 26) (hv : ∀ j, j < uN (L.1 2) → Gw g (σ.2.2.1 26 j)) : Tm (fun k => y_X1_markRow__z26 k 0 L σ) (fun r => ∃ U', r.2 = uF σ 1 U' ∧ MkU g l σ U' ∧ ∀ j, j < uN (L.1 2) → MkV U' (σ.2.2.1 26 j)) := by
  have b1 : ∀ (m : Nat) (L' : LV) (U : Nat → Int32), uN (L'.1 3) + m = uN (L.1 2) → L'.1 2 = L.1 2 → MkU g l σ U → (∀ j, j < uN (L'.1 3) → MkV U (σ.2.2.1 26 j)) → Tm (fun k => y_X1_markRow__z26 k 1 L' (uF σ 1 U)) (fun r => ∃ U', r.2 = uF σ 1 U' ∧ MkU g l σ U' ∧ ∀ j, j < uN (L.1 2) → MkV U' (σ.2.2.1 26 j)) := by
    intro m
    induction m with
    | zero =>
      intro L' U a3 a2 hU hj
      refine Tm_suc (fun k => by rw [y_X1_markRow__z26]) ?_
      refine Tm_yes (by rw [a2, u_le (by omega) (by omega)]; omega) ?_
      refine Tm_suc (fun k => by rw [y_X1_markRow__z26]) ?_
      exact Tm_some ⟨U, rfl, hU, fun j q => hj j (by omega)⟩
    | succ m ih =>
      intro L' U a3 a2 hU hj
      have b3 : ∀ U2 : Nat → Int32, MkU g l σ U2 → (∀ j, j < uN (L'.1 3) → MkV U2 (σ.2.2.1 26 j)) → MkV U2 (σ.2.2.1 26 (uN (L'.1 3))) → Tm (fun k => y_X1_markRow__z26 k 3 L' (uF σ 1 U2)) (fun r => ∃ U', r.2 = uF σ 1 U' ∧ MkU g l σ U' ∧ ∀ j, j < uN (L.1 2) → MkV U' (σ.2.2.1 26 j)) := by
        intro U2 z1 z2 z3
        refine Tm_suc (fun k => by rw [y_X1_markRow__z26]) ?_
        refine ih _ U2 ?_ a2 z1 ?_
        · show uN (L'.1 3 + 1) + m = _
          rw [u_inc (by omega)]; omega
        · show ∀ j, j < uN (L'.1 3 + 1) → MkV U2 (σ.2.2.1 26 j)
          rw [u_inc (by omega)]
          intro j q
          rcases Nat.lt_or_ge j (uN (L'.1 3)) with c | c
          · exact z2 j c
          · rw [show j = uN (L'.1 3) from by omega]
            exact z3
      have i3 : ¬ (L'.1 3 < 0 ∨ sN σ 26 ≤ (L'.1 3).toNatClampNeg) := u_in (by omega) (by omega)
      have gv := hv (uN (L'.1 3)) (by omega)
      refine Tm_suc (fun k => by rw [y_X1_markRow__z26]) ?_
      refine Tm_no (by rw [a2, u_le (by omega) (by omega)]; omega) ?_
      refine Tm_chk i3 ?_
      refine Tm_ite (fun c => ?_) (fun c => ?_)
      · refine b3 U hU hj ?_
        have c' : σ.2.2.1 26 (L'.1 3).toNatClampNeg < 3 := c
        rw [u_cl (by omega), lt_3] at c'
        exact fun p q => absurd ⟨p, q⟩ c'
      · have c' : ¬ σ.2.2.1 26 (L'.1 3).toNatClampNeg < 3 := c
        rw [u_cl (by omega), lt_3] at c'
        have c2 := Classical.not_not.1 c'
        refine Tm_chk i3 ?_
        refine Tm_oc (c_markCell (HQ_f h (k := 1) (by decide) U) hU.1 ?_ ?_ ?_) (fun r q => ?_)
        · show g (uN (σ.2.2.1 26 (L'.1 3).toNatClampNeg))
          rw [u_cl (by omega)]
          exact (Gw_c gv c2.2).2
        · show 3 ≤ uN (σ.2.2.1 26 (L'.1 3).toNatClampNeg)
          rw [u_cl (by omega)]
          exact c2.1
        · show uN (σ.2.2.1 26 (L'.1 3).toNatClampNeg) < _
          rw [u_cl (by omega)]
          exact c2.2
        · obtain ⟨U2, e, m2, q2⟩ := q
          rw [e, uF_f]
          have q3 : bI U2 (uN (σ.2.2.1 26 (L'.1 3).toNatClampNeg)) = 1 := q2
          rw [u_cl (by omega)] at q3
          exact b3 U2 (MkU_t hU m2) (fun j hj2 p q => m2.2.1 _ (hj j hj2 p q)) (fun _ _ => q3)
  refine Tm_suc (fun k => by rw [y_X1_markRow__z26]) ?_
  have e := uF_id σ 1
  have z := b1 (uN (L.1 2)) (lI L 3 0) (σ.2.2.1 1) (by show 0 + _ = _; omega) rfl ⟨hb, fun _ z => z, fun q _ z => Or.inl z⟩ (fun j hj => absurd hj (Nat.not_lt_zero j))
  rw [e] at z
  exact z
theorem c_moveRow26 (h : HQ g l t σ) (hB : BfU (sN σ 1) (σ.2.2.1 1) (σ.2.2.1 2)) (hN : sN σ 26 ≤ 1000000000) (hn : uN (L.1 2) ≤ sN σ 26) (hv : ∀ j, j < uN (L.1 2) → Gw g (σ.2.2.1 26 j)) : Tm (fun k => y_X1_moveRow__z26 k 0 L σ) (fun r => ∃ f, r.2 = uF σ 26 f ∧ (∀ j, j < uN (L.1 2) → f j = rnm (σ.2.2.1 1) (σ.2.2.1 26 j)) ∧ ∀ j, uN (L.1 2) ≤ j → f j = σ.2.2.1 26 j) := by
  have b1 : ∀ (m : Nat) (L' : LV) (f : Nat → Int32), uN (L'.1 3) + m = uN (L.1 2) → L'.1 2 = L.1 2 → (∀ j, j < uN (L'.1 3) → f j = rnm (σ.2.2.1 1) (σ.2.2.1 26 j)) → (∀ j, uN (L'.1 3) ≤ j → f j = σ.2.2.1 26 j) → Tm (fun k => y_X1_moveRow__z26 k 1 L' (uF σ 26 f)) (fun r => ∃ f, r.2 = uF σ 26 f ∧ (∀ j, j < uN (L.1 2) → f j = rnm (σ.2.2.1 1) (σ.2.2.1 26 j)) ∧ ∀ j, uN (L.1 2) ≤ j → f j = σ.2.2.1 26 j) := by
    intro m
    induction m with
    | zero =>
      intro L' f a3 a2 h1 h2
      refine Tm_suc (fun k => by rw [y_X1_moveRow__z26]) ?_
      refine Tm_yes (by rw [a2, u_le (by omega) (by omega)]; omega) ?_
      refine Tm_suc (fun k => by rw [y_X1_moveRow__z26]) ?_
      exact Tm_some ⟨f, rfl, fun j q => h1 j (by omega), fun j q => h2 j (by omega)⟩
    | succ m ih =>
      intro L' f a3 a2 h1 h2
      have b3 : ∀ f2 : Nat → Int32, (∀ j, j < uN (L'.1 3) + 1 → f2 j = rnm (σ.2.2.1 1) (σ.2.2.1 26 j)) → (∀ j, uN (L'.1 3) + 1 ≤ j → f2 j = σ.2.2.1 26 j) → Tm (fun k => y_X1_moveRow__z26 k 3 L' (uF σ 26 f2)) (fun r => ∃ f, r.2 = uF σ 26 f ∧ (∀ j, j < uN (L.1 2) → f j = rnm (σ.2.2.1 1) (σ.2.2.1 26 j)) ∧ ∀ j, uN (L.1 2) ≤ j → f j = σ.2.2.1 26 j) := by
        intro f2 z1 z2
        refine Tm_suc (fun k => by rw [y_X1_moveRow__z26]) ?_
        refine ih _ f2 ?_ a2 ?_ ?_
        · show uN (L'.1 3 + 1) + m = _
          rw [u_inc (by omega)]; omega
        · show ∀ j, j < uN (L'.1 3 + 1) → _
          rw [u_inc (by omega)]
          exact z1
        · show ∀ j, uN (L'.1 3 + 1) ≤ j → _
          rw [u_inc (by omega)]
          exact z2
      have i3 : ¬ (L'.1 3 < 0 ∨ sN σ 26 ≤ (L'.1 3).toNatClampNeg) := u_in (by omega) (by omega)
      have gv := hv (uN (L'.1 3)) (by omega)
      have ef : (uF σ 26 f).2.2.1 26 (L'.1 3).toNatClampNeg = σ.2.2.1 26 (uN (L'.1 3)) := by
        show f (L'.1 3).toNatClampNeg = _
        rw [u_cl (by omega)]
        exact h2 _ (Nat.le_refl _)
      refine Tm_suc (fun k => by rw [y_X1_moveRow__z26]) ?_
      refine Tm_no (by rw [a2, u_le (by omega) (by omega)]; omega) ?_
      refine Tm_chk i3 ?_
      rw [ef]
      refine Tm_ite (fun c => ?_) (fun c => ?_)
      · rw [lt_3] at c
        refine b3 f ?_ (fun j hj => h2 j (by omega))
        intro j hj
        rcases Nat.lt_or_ge j (uN (L'.1 3)) with d | d
        · exact h1 j d
        · have ej : j = uN (L'.1 3) := by omega
          rw [h2 j d, ej]
          exact (if_neg c).symm
      · rw [lt_3] at c
        have c2 := Classical.not_not.1 c
        refine Tm_chk i3 ?_
        have gc := HQ_c h (Gw_c gv c2.2).2
        refine Tm_ocE (c_placeOfH (HQ_f h (k := 26) (by decide) f) hB gc.1) ?_
        refine Tm_chk i3 ?_
        rw [uF_a]
        refine b3 _ ?_ ?_
        · intro j hj
          show upd f (L'.1 3).toNatClampNeg (nI (ctB (σ.2.2.1 1) (uN (σ.2.2.1 26 (uN (L'.1 3)))))) j = _
          rw [u_cl (by omega)]
          by_cases d : j = uN (L'.1 3)
          · rw [d, upd_same]
            exact (if_pos c2).symm
          · rw [upd_other d]
            exact h1 j (by omega)
        · intro j hj
          show upd f (L'.1 3).toNatClampNeg _ j = _
          rw [u_cl (by omega), upd_other (by omega)]
          exact h2 j (by omega)
  refine Tm_suc (fun k => by rw [y_X1_moveRow__z26]) ?_
  have e := uF_id σ 26
  have z := b1 (uN (L.1 2)) (lI L 3 0) (σ.2.2.1 26) (by show 0 + _ = _; omega) rfl (fun j hj => absurd hj (Nat.not_lt_zero j)) (fun _ _ => rfl)
  rw [e] at z
  exact z
end CSM
end JnS375
section JnS376
/-! The class: cells move. -/
section CSN
variable {g g' g2 : Nat → Prop} {l l' l2 : List Nat} {t t' t2 : Nat} {σ σ' σ2 : CS} {L : LV} {x y i : Int32} {M M' U U' : Nat → Int32}
theorem c_wordsBehind : Tm (fun k => y_X1_wordsBehind k 0 L σ) (fun r => r = (nI (hdW (uN (L.1 0))), σ)) := by
  have cl : hdL (uN (L.1 0)) < 4096 := Nat.mod_lt _ (by decide)
  have k8 : hdK (uN (L.1 0)) < 8 := Nat.mod_lt _ (by decide)
  have u3 : uN (3 : Int32) = 3 := rfl
  refine Tm_suc (fun k => by rw [y_X1_wordsBehind]) ?_
  rw [e_knd, e_len]
  refine Tm_ite (fun c => ?_) (fun c => ?_)
  · rw [u_eq, u_n (by omega)] at c
    have c' : uN (L.1 0) % 8 = 4 := c
    refine Tm_suc (fun k => by rw [y_X1_wordsBehind]) ?_
    refine Tm_some (Prod.ext ?_ rfl)
    show (nI (hdL (uN (L.1 0))) + 3) >>> ((2 : Int32) &&& 31) = nI (hdW (uN (L.1 0)))
    unfold hdW
    rw [if_pos c', u_of ((nI (hdL (uN (L.1 0))) + 3) >>> ((2 : Int32) &&& 31)), u_sar2 (by rw [u_add (by rw [u_n (by omega)]; omega), u_n (by omega)]; omega), u_add (by rw [u_n (by omega)]; omega), u_n (by omega), u3]
  · rw [u_eq, u_n (by omega)] at c
    have c' : ¬ uN (L.1 0) % 8 = 4 := c
    refine Tm_suc (fun k => by rw [y_X1_wordsBehind]) ?_
    refine Tm_suc (fun k => by rw [y_X1_wordsBehind]) ?_
    refine Tm_some (Prod.ext ?_ rfl)
    show nI (hdL (uN (L.1 0))) = nI (hdW (uN (L.1 0)))
    unfold hdW
    rw [if_neg c']
/-- an int of a cell as it will be -/
def rnw (M U : Nat → Int32) (q j : Nat) : Int32 := if j = 0 ∨ hdK (uN (M q)) < 5 then M (q + j) else rnm U (M (q + j))
/-- what moving leaves -/
def MvM (l : List Nat) (M U Mc : Nat → Int32) (a : Nat) : Prop := (∀ q, q ∈ l → q < a → bI U q = 1 → ∀ j, j ≤ hdW (uN (M q)) → Mc (ctB U q + j) = rnw M U q j) ∧ ∀ p, p < 3 → Mc p = M p
theorem ct_3 (h : BI g l M U) : ∀ p, p ≤ 3 → ctB U p = p := by
  have a := h.2.2
  intro p hp
  have e : ctB U 1 = 1 := by show 0 + bI U 0 = 1; rw [a.1]
  have e2 : ctB U 2 = 2 := by show ctB U 1 + bI U 1 = 2; rw [e, a.2.1]
  have e3 : ctB U 3 = 3 := by show ctB U 2 + bI U 2 = 3; rw [e2, a.2.2]
  rcases (show p = 0 ∨ p = 1 ∨ p = 2 ∨ p = 3 by omega) with z | z | z | z <;> rw [z]
  · rfl
  · exact e
  · exact e2
  · exact e3
theorem ct_m (h : BI g l M U) {q : Nat} (hq : q ∈ l) (h1 : bI U q = 1) {n : Nat} (hn : n ≤ hdW (uN (M q)) + 1) : ctB U (q + n) = ctB U q + n := ct_1 n (fun j hj => by rw [h.1 q hq j (by omega)]; exact h1)
theorem ct_u (h : BI g l M U) {q : Nat} (hq : q ∈ l) (h1 : bI U q = 0) {n : Nat} (hn : n ≤ hdW (uN (M q)) + 1) : ctB U (q + n) = ctB U q := ct_0 n (fun j hj => by rw [h.1 q hq j (by omega)]; exact h1)
theorem ct_lt (U : Nat → Int32) {a b : Nat} (h : a ≤ b) : ctB U a ≤ ctB U b := by
  have z := ct_mono U (a := a) (b - a)
  rw [show a + (b - a) = b from by omega] at z
  exact z
theorem mv_1 (hq : HQ g l t σ) (hb : BI g l (σ.2.2.1 3) (σ.2.2.1 1)) (hB : BfU (sN σ 1) (σ.2.2.1 1) (σ.2.2.1 2)) : ∀ (l' : List Nat) (a : Nat) (L : LV) (Mc : Nat → Int32), TlC (σ.2.2.1 3) t a l' → (∀ q, q ∈ l' → q ∈ l) → 3 ≤ a → uN (L.1 3) = a → uN (L.1 1) = ctB (σ.2.2.1 1) a → (∀ p, a ≤ p → Mc p = σ.2.2.1 3 p) → MvM l (σ.2.2.1 3) (σ.2.2.1 1) Mc a → Tm (fun k => y_X1_moveCells k 1 L (uF σ 3 Mc)) (fun r => ∃ Mc', r.2 = hpC σ (ctB (σ.2.2.1 1) t) Mc' ∧ MvM l (σ.2.2.1 3) (σ.2.2.1 1) Mc' t) := by
  have nn := HQ_n hq
  have tt := hq.2.1
  have et : uN (σ.1 1) = t := by rw [hq.1, u_n (by omega)]
  intro l'
  induction l' with
  | nil =>
    intro a L Mc tl sub a3 l3 l1 hp hm
    have ea : a = t := tl
    have cl := ct_le (σ.2.2.1 1) a
    refine Tm_suc (fun k => by rw [y_X1_moveCells]) ?_
    refine Tm_yes (by show σ.1 1 ≤ _; rw [u_le (by omega) (by omega)]; omega) ?_
    refine Tm_suc (fun k => by rw [y_X1_moveCells]) ?_
    refine Tm_some ⟨Mc, ?_, by rw [← ea]; exact hm⟩
    show uI (uF σ 3 Mc) 1 (L.1 1) = _
    rw [u_of (L.1 1), l1, ea]
    rfl
  | cons q l' ih =>
    intro a L Mc tl sub a3 l3 l1 hp hm
    obtain ⟨qa, t1, t2, t3⟩ := tl
    subst qa
    have ql := sub q List.mem_cons_self
    have cl := ct_le (σ.2.2.1 1) q
    have i3 : ¬ (L.1 3 < 0 ∨ sN (uF σ 3 Mc) 3 ≤ (L.1 3).toNatClampNeg) := u_in (by show _ < sN σ 3; omega) (by show sN σ 3 ≤ _; omega)
    have wl : hdW (uN (σ.2.2.1 3 q)) < 4096 := by
      have := Nat.mod_lt (uN (σ.2.2.1 3 q) / 16) (show 4096 > 0 by decide)
      unfold hdW hdL
      split <;> omega
    have eh : (uF σ 3 Mc).2.2.1 3 (L.1 3).toNatClampNeg = σ.2.2.1 3 q := by
      show Mc (L.1 3).toNatClampNeg = _
      rw [u_cl (by omega), l3]
      exact hp q (Nat.le_refl _)
    have u1 : uN (1 : Int32) = 1 := rfl
    have ew : uN (1 + nI (hdW (uN (σ.2.2.1 3 q)))) = 1 + hdW (uN (σ.2.2.1 3 q)) := by rw [u_add (by rw [u_n (by omega)]; omega), u_n (by omega), u1]
    -- behind the cell
    have b3 : ∀ (L' : LV) (Mc' : Nat → Int32), L'.1 3 = L.1 3 → uN (L'.1 2) = 1 + hdW (uN (σ.2.2.1 3 q)) → uN (L'.1 1) = ctB (σ.2.2.1 1) (q + 1 + hdW (uN (σ.2.2.1 3 q))) → (∀ p, q + 1 + hdW (uN (σ.2.2.1 3 q)) ≤ p → Mc' p = σ.2.2.1 3 p) → MvM l (σ.2.2.1 3) (σ.2.2.1 1) Mc' (q + 1 + hdW (uN (σ.2.2.1 3 q))) → Tm (fun k => y_X1_moveCells k 3 L' (uF σ 3 Mc')) (fun r => ∃ Mc', r.2 = hpC σ (ctB (σ.2.2.1 1) t) Mc' ∧ MvM l (σ.2.2.1 3) (σ.2.2.1 1) Mc' t) := by
      intro L' Mc' z3 z2 z1 zp zm
      refine Tm_suc (fun k => by rw [y_X1_moveCells]) ?_
      refine ih _ _ Mc' t3 (fun r hr => sub r (List.mem_cons_of_mem _ hr)) ?_ ?_ ?_ zp zm
      · omega
      · show uN (L'.1 3 + L'.1 2) = _
        rw [z3, u_add (by omega), z2]; omega
      · exact z1
    -- cells before it
    have near : ∀ r, r ∈ l → r < q + 1 + hdW (uN (σ.2.2.1 3 q)) → r = q ∨ r < q := by
      intro r hr hlt
      rcases TlC_dj l 3 hq.2.2.2.2.2.1 q r ql hr with v | v | v <;> omega
    refine Tm_suc (fun k => by rw [y_X1_moveCells]) ?_
    refine Tm_no (by show ¬ σ.1 1 ≤ _; rw [u_le (by omega) (by omega)]; omega) ?_
    refine Tm_chk i3 ?_
    rw [eh]
    refine Tm_ocE c_wordsBehind ?_
    have iu3 := in_ui (x := L.1 3) hq (by omega)
    refine Tm_chk iu3 ?_
    refine Tm_ite (fun c0 => ?_) (fun c0 => ?_)
    · have c1 := (bit_t (σ.2.2.1 1) (x := L.1 3) (by omega)).1 c0
      rw [l3] at c1
      refine b3 _ Mc rfl ?_ ?_ ?_ ⟨?_, hm.2⟩
      · exact ew
      · show uN (L.1 1) = _
        rw [l1, show q + 1 + hdW (uN (σ.2.2.1 3 q)) = q + (hdW (uN (σ.2.2.1 3 q)) + 1) from by omega, ct_u hb ql c1 (Nat.le_refl _)]
      · intro p h1
        exact hp p (by omega)
      · intro r hr hlt h1
        rcases near r hr hlt with v | v
        · rw [v, c1] at h1
          exact absurd h1 (by decide)
        · exact hm.1 r hr v h1
    · have c1 : ¬ bI (σ.2.2.1 1) q = 0 := by
        rw [← l3]
        exact fun z => c0 ((bit_t (σ.2.2.1 1) (x := L.1 3) (by omega)).2 z)
      have c2 : bI (σ.2.2.1 1) q = 1 := (bI_2 (σ.2.2.1 1) q).resolve_left c1
      have gq := hb.2.1 q ql c2
      have cg := HQ_c hq gq
      have em : ctB (σ.2.2.1 1) (q + 1 + hdW (uN (σ.2.2.1 3 q))) = ctB (σ.2.2.1 1) q + (hdW (uN (σ.2.2.1 3 q)) + 1) := by
        rw [show q + 1 + hdW (uN (σ.2.2.1 3 q)) = q + (hdW (uN (σ.2.2.1 3 q)) + 1) from by omega, ct_m hb ql c2 (Nat.le_refl _)]
      -- the copy
      have b5 : ∀ (L' : LV) (Mi : Nat → Int32), L'.1 3 = L.1 3 → L'.1 1 = L.1 1 → uN (L'.1 2) = 1 + hdW (uN (σ.2.2.1 3 q)) → (∀ j, j ≤ hdW (uN (σ.2.2.1 3 q)) → Mi (q + j) = rnw (σ.2.2.1 3) (σ.2.2.1 1) q j) → (∀ p, p < q ∨ q + hdW (uN (σ.2.2.1 3 q)) < p → Mi p = Mc p) → Tm (fun k => y_X1_moveCells k 5 L' (uF σ 3 Mi)) (fun r => ∃ Mc', r.2 = hpC σ (ctB (σ.2.2.1 1) t) Mc' ∧ MvM l (σ.2.2.1 3) (σ.2.2.1 1) Mc' t) := by
        intro L' Mi z3 z1 z2 zi zo
        have u3' : uN (L'.1 3) = q := by rw [z3]; exact l3
        have u1' : uN (L'.1 1) = ctB (σ.2.2.1 1) q := by rw [z1]; exact l1
        have e3 : (L'.1 3).toNatClampNeg = q := by rw [u_cl (by omega)]; exact u3'
        have e1 : (L'.1 1).toNatClampNeg = ctB (σ.2.2.1 1) q := by rw [u_cl (by omega)]; exact u1'
        have e2 : (L'.1 2).toNatClampNeg = 1 + hdW (uN (σ.2.2.1 3 q)) := by rw [u_cl (by omega)]; exact z2
        refine Tm_suc (fun k => by rw [y_X1_moveCells]) ?_
        refine Tm_chk ⟨?_, ?_, ?_, ?_, ?_⟩ ?_
        · rw [u_neg]; omega
        · rw [u_neg]; omega
        · rw [u_neg]; omega
        · show (L'.1 3).toNatClampNeg + (L'.1 2).toNatClampNeg ≤ sN σ 3
          omega
        · show (L'.1 1).toNatClampNeg + (L'.1 2).toNatClampNeg ≤ sN σ 3
          omega
        rw [uF_f]
        refine b3 _ _ z3 z2 ?_ ?_ ⟨?_, ?_⟩
        · show uN (L'.1 1 + L'.1 2) = _
          rw [u_add (by omega), u1', z2, em]; omega
        · intro p h1
          show va_cpy Mi Mi (L'.1 3).toNatClampNeg (L'.1 1).toNatClampNeg (L'.1 2).toNatClampNeg p = _
          unfold va_cpy
          rw [if_neg (by omega), zo p (by omega)]
          exact hp p (by omega)
        · intro r hr hlt h1 j hj
          show va_cpy Mi Mi (L'.1 3).toNatClampNeg (L'.1 1).toNatClampNeg (L'.1 2).toNatClampNeg _ = _
          unfold va_cpy
          rcases near r hr hlt with v | v
          · rw [v] at hj ⊢
            rw [if_pos (by omega), e3, e1, show q + (ctB (σ.2.2.1 1) q + j - ctB (σ.2.2.1 1) q) = q + j from by omega]
            exact zi j hj
          · have z := TlC_dj l 3 hq.2.2.2.2.2.1 r q hr ql
            have z2' : r + hdW (uN (σ.2.2.1 3 r)) < q := by
              rcases z with w | w | w <;> omega
            have z3' := ct_lt (σ.2.2.1 1) (show r + (hdW (uN (σ.2.2.1 3 r)) + 1) ≤ q by omega)
            rw [ct_m hb hr h1 (Nat.le_refl _)] at z3'
            rw [if_neg (by omega), zo _ (by omega)]
            exact hm.1 r hr v h1 j hj
        · intro p h3
          show va_cpy Mi Mi (L'.1 3).toNatClampNeg (L'.1 1).toNatClampNeg (L'.1 2).toNatClampNeg p = _
          unfold va_cpy
          have z := ct_lt (σ.2.2.1 1) a3
          rw [ct_3 hb 3 (Nat.le_refl _)] at z
          rw [if_neg (by omega), zo p (by omega)]
          exact hm.2 p h3
      -- members renamed
      have b4 : ∀ (m : Nat) (L' : LV) (Mi : Nat → Int32), uN (L'.1 5) + m = q + 1 + hdW (uN (σ.2.2.1 3 q)) → q < uN (L'.1 5) → L'.1 3 = L.1 3 → L'.1 1 = L.1 1 → uN (L'.1 2) = 1 + hdW (uN (σ.2.2.1 3 q)) → L'.1 4 = σ.2.2.1 3 q → (∀ p, Mi p = if q < p ∧ p < uN (L'.1 5) ∧ 5 ≤ hdK (uN (σ.2.2.1 3 q)) then rnm (σ.2.2.1 1) (σ.2.2.1 3 p) else Mc p) → Tm (fun k => y_X1_moveCells k 4 L' (uF σ 3 Mi)) (fun r => ∃ Mc', r.2 = hpC σ (ctB (σ.2.2.1 1) t) Mc' ∧ MvM l (σ.2.2.1 3) (σ.2.2.1 1) Mc' t) := by
        intro m
        induction m with
        | zero =>
          intro L' Mi z5 z5' z3 z1 z2 z4 zM
          refine Tm_suc (fun k => by rw [y_X1_moveCells]) ?_
          refine Tm_yes ?_ (b5 _ Mi z3 z1 z2 ?_ ?_)
          · rw [u_le (by rw [u_add (by rw [z3]; omega), z3]; omega) (by omega), u_add (by rw [z3]; omega), z3]
            omega
          · intro j hj
            rw [zM]
            unfold rnw
            by_cases v : j = 0 ∨ hdK (uN (σ.2.2.1 3 q)) < 5
            · rw [if_pos v, if_neg (by omega)]
              exact hp _ (by omega)
            · rw [if_neg v, if_pos (by omega)]
          · intro p h1
            rw [zM, if_neg (by omega)]
        | succ m ih2 =>
          intro L' Mi z5 z5' z3 z1 z2 z4 zM
          have u5 : uN (5 : Int32) = 5 := rfl
          have k8 : hdK (uN (σ.2.2.1 3 q)) < 8 := Nat.mod_lt _ (by decide)
          refine Tm_suc (fun k => by rw [y_X1_moveCells]) ?_
          refine Tm_no ?_ ?_
          · rw [u_le (by rw [u_add (by rw [z3]; omega), z3]; omega) (by omega), u_add (by rw [z3]; omega), z3]
            omega
          rw [z4, e_knd]
          refine Tm_ite (fun k5 => ?_) (fun k5 => ?_)
          · rw [u_ltn (by rw [u_n (by omega)]; omega) (by omega), u_n (by omega)] at k5
            refine b5 _ Mi z3 z1 z2 ?_ ?_
            · intro j hj
              rw [zM, if_neg (by omega)]
              unfold rnw
              rw [if_pos (Or.inr (by omega))]
              exact hp _ (by omega)
            · intro p h1
              rw [zM, if_neg (by omega)]
          · rw [u_ltn (by rw [u_n (by omega)]; omega) (by omega), u_n (by omega)] at k5
            have k5' : 5 ≤ hdK (uN (σ.2.2.1 3 q)) := by omega
            have w5 := hdW_5 k5'
            have i5 : ¬ (L'.1 5 < 0 ∨ sN (uF σ 3 Mi) 3 ≤ (L'.1 5).toNatClampNeg) := u_in (by show _ < sN σ 3; omega) (by show sN σ 3 ≤ _; omega)
            have e5 : (uF σ 3 Mi).2.2.1 3 (L'.1 5).toNatClampNeg = σ.2.2.1 3 (uN (L'.1 5)) := by
              show Mi (L'.1 5).toNatClampNeg = _
              rw [u_cl (by omega), zM, if_neg (by omega)]
              exact hp _ (by omega)
            have mem := (cg.2.2.2.2.2.2.2.2.2.1 k5').2.2 (uN (L'.1 5) - q - 1) (by omega)
            rw [show q + 1 + (uN (L'.1 5) - q - 1) = uN (L'.1 5) from by omega] at mem
            have b7 : ∀ L2 : LV, L2.1 101 = L'.1 5 → L2.1 100 = rnm (σ.2.2.1 1) (σ.2.2.1 3 (uN (L'.1 5))) → L2.1 5 = L'.1 5 → L2.1 3 = L.1 3 → L2.1 1 = L.1 1 → L2.1 2 = L'.1 2 → L2.1 4 = σ.2.2.1 3 q → Tm (fun k => y_X1_moveCells k 7 L2 (uF σ 3 Mi)) (fun r => ∃ Mc', r.2 = hpC σ (ctB (σ.2.2.1 1) t) Mc' ∧ MvM l (σ.2.2.1 3) (σ.2.2.1 1) Mc' t) := by
              intro L2 y101 y100 y5 y3 y1 y2 y4
              refine Tm_suc (fun k => by rw [y_X1_moveCells]) ?_
              refine Tm_chk (by rw [y101]; exact i5) ?_
              rw [uF_a]
              refine ih2 _ _ ?_ ?_ ?_ ?_ ?_ ?_ ?_
              · show uN (L2.1 5 + 1) + m = _
                rw [y5, u_inc (by omega)]; omega
              · show q < uN (L2.1 5 + 1)
                rw [y5, u_inc (by omega)]; omega
              · exact y3
              · exact y1
              · show uN (L2.1 2) = _
                rw [y2]; exact z2
              · exact y4
              · intro p
                show upd Mi (L2.1 101).toNatClampNeg (L2.1 100) p = if q < p ∧ p < uN (L2.1 5 + 1) ∧ 5 ≤ hdK (uN (σ.2.2.1 3 q)) then rnm (σ.2.2.1 1) (σ.2.2.1 3 p) else Mc p
                rw [y5, u_inc (by omega), y101, u_cl (by omega), y100]
                by_cases v : p = uN (L'.1 5)
                · rw [v, upd_same, if_pos (by omega)]
                · rw [upd_other v, zM]
                  by_cases w : q < p ∧ p < uN (L'.1 5) ∧ 5 ≤ hdK (uN (σ.2.2.1 3 q))
                  · rw [if_pos w, if_pos (by omega)]
                  · rw [if_neg w, if_neg (by omega)]
            refine Tm_chk i5 ?_
            rw [e5]
            refine Tm_ite (fun c3 => ?_) (fun c3 => ?_)
            · rw [lt_3] at c3
              refine Tm_suc (fun k => by rw [y_X1_moveCells]) ?_
              refine Tm_chk i5 ?_
              refine b7 _ ?_ ?_ ?_ ?_ ?_ ?_ ?_
              · rfl
              · show (uF σ 3 Mi).2.2.1 3 (L'.1 5).toNatClampNeg = _
                rw [e5]
                exact (if_neg c3).symm
              · rfl
              · exact z3
              · exact z1
              · rfl
              · exact z4
            · rw [lt_3] at c3
              have c4 := Classical.not_not.1 c3
              have gm := HQ_c hq (Gv_c mem.1 c4.2).2
              have iu := in_u hq gm.1
              refine Tm_chk i5 ?_
              refine Tm_ocE (c_placeOfP hB iu.2.2.1 (by show sN σ 2 = sN σ 1; rcases hq.2.2.1 with w | w <;> omega) iu.1) ?_
              refine b7 _ ?_ ?_ ?_ ?_ ?_ ?_ ?_
              · rfl
              · exact (if_pos c4).symm
              · rfl
              · exact z3
              · exact z1
              · rfl
              · exact z4
      refine b4 (hdW (uN (σ.2.2.1 3 q))) _ Mc ?_ ?_ ?_ ?_ ?_ ?_ ?_
      · show uN (L.1 3 + 1) + _ = _
        rw [u_inc (by omega)]; omega
      · show q < uN (L.1 3 + 1)
        rw [u_inc (by omega)]; omega
      · rfl
      · rfl
      · exact ew
      · rfl
      · intro p
        have u5 : uN (L.1 3 + 1) = q + 1 := by rw [u_inc (by omega), l3]
        exact (if_neg (fun z => by
          have z1 := z.1
          have z2 : p < uN (L.1 3 + 1) := z.2.1
          omega)).symm
theorem c_moveCells (hq : HQ g l t σ) (hb : BI g l (σ.2.2.1 3) (σ.2.2.1 1)) (hB : BfU (sN σ 1) (σ.2.2.1 1) (σ.2.2.1 2)) : Tm (fun k => y_X1_moveCells k 0 L σ) (fun r => ∃ Mc', r.2 = hpC σ (ctB (σ.2.2.1 1) t) Mc' ∧ MvM l (σ.2.2.1 3) (σ.2.2.1 1) Mc' t) := by
  refine Tm_suc (fun k => by rw [y_X1_moveCells]) ?_
  have e := uF_id σ 3
  have z := mv_1 hq hb hB l 3 (lI (lI L 1 3) 3 3) (σ.2.2.1 3) hq.2.2.2.2.2.1 (fun _ z => z) (Nat.le_refl _) rfl (ct_3 hb 3 (Nat.le_refl _)).symm (fun _ _ => rfl) ⟨fun r hr hlt => ?_, fun _ _ => rfl⟩
  · rw [e] at z
    exact z
  · have w := (TlC_ge l 3 hq.2.2.2.2.2.1 r hr).1
    omega
/-- the good cells behind a move, and the cells -/
def gM (l : List Nat) (U : Nat → Int32) (p : Nat) : Prop := ∃ q, (q < 3 ∨ (q ∈ l ∧ bI U q = 1)) ∧ p = ctB U q
def lsM (U : Nat → Int32) : List Nat → List Nat
  | [] => []
  | q :: l => if bI U q = 1 then ctB U q :: lsM U l else lsM U l
theorem lsM_mem : ∀ (l : List Nat) (q : Nat), q ∈ l → bI U q = 1 → ctB U q ∈ lsM U l
  | [], q, h, _ => absurd h List.not_mem_nil
  | r :: l, q, h, h1 => by
    unfold lsM
    rcases List.mem_cons.1 h with e | e
    · rw [← e, if_pos h1]
      exact List.mem_cons_self
    · split
      · exact List.mem_cons_of_mem _ (lsM_mem l q e h1)
      · exact lsM_mem l q e h1
theorem TlC_mv (hb : BI g l M U) (hM : ∀ q, q ∈ l → bI U q = 1 → M' (ctB U q) = M q) : ∀ (l' : List Nat) (a : Nat), (∀ q, q ∈ l' → q ∈ l) → TlC M t a l' → TlC M' (ctB U t) (ctB U a) (lsM U l')
  | [], a, _, h => by
    have e : a = t := h
    rw [e]
    rfl
  | q :: l', a, sub, h => by
    obtain ⟨h1, h2, h3, h4⟩ := h
    subst h1
    have ql := sub q List.mem_cons_self
    have ih := TlC_mv hb hM l' _ (fun r hr => sub r (List.mem_cons_of_mem _ hr)) h4
    unfold lsM
    rw [show q + 1 + hdW (uN (M q)) = q + (hdW (uN (M q)) + 1) from by omega] at ih h3
    by_cases c : bI U q = 1
    · rw [if_pos c]
      rw [ct_m hb ql c (Nat.le_refl _)] at ih
      have lt := ct_lt U h3
      rw [ct_m hb ql c (Nat.le_refl _)] at lt
      refine ⟨rfl, ?_, ?_, ?_⟩
      · rw [hM q ql c]; exact h2
      · rw [hM q ql c]; omega
      · rw [hM q ql c, show ctB U q + 1 + hdW (uN (M q)) = ctB U q + (hdW (uN (M q)) + 1) from by omega]
        exact ih
    · rw [if_neg c]
      rw [ct_u hb ql ((bI_2 U q).resolve_right c) (Nat.le_refl _)] at ih
      exact ih
theorem Gv_mv (hq : HQ g l t σ) (hb : BI g l (σ.2.2.1 3) U) (hx : Gv g x) (hm : MkV U x) : Gv (gM l U) (rnm U x) := by
  unfold rnm
  by_cases c : 3 ≤ uN x ∧ uN x < 2147483648
  · rw [if_pos c]
    have gc := Gv_c hx c.2
    have cl := ct_le U (uN x)
    right
    rw [u_n (by omega)]
    refine ⟨by omega, uN x, Or.inr ⟨?_, hm c.1 c.2⟩, rfl⟩
    rcases (hq.2.2.2.2.2.2 _ gc.2).1 with z | z
    · omega
    · exact z
  · rw [if_neg c]
    rcases hx with z | z
    · exact Or.inl z
    · exact Or.inr ⟨z.1, uN x, Or.inl (by omega), (ct_3 hb _ (by omega)).symm⟩
theorem hgt_mv (hq : HQ g l t σ) (hx : Gw g x) (hm : MkV U x) (h0 : ∀ q, q ∈ l → bI U q = 1 → M' (ctB U q) = σ.2.2.1 3 q) (h3 : ∀ p, p < 3 → M' p = σ.2.2.1 3 p) : hgt M' (rnm U x) = hgt (σ.2.2.1 3) x ∧ (uN x < 2147483648 → uN (rnm U x) < 2147483648 ∧ M' (uN (rnm U x)) = σ.2.2.1 3 (uN x)) := by
  unfold rnm
  by_cases c : 3 ≤ uN x ∧ uN x < 2147483648
  · rw [if_pos c]
    have gc := Gw_c hx c.2
    have cl := ct_le U (uN x)
    have xl : uN x ∈ l := by
      rcases (hq.2.2.2.2.2.2 _ gc.2).1 with z | z
      · omega
      · exact z
    have e := h0 _ xl (hm c.1 c.2)
    unfold hgt
    rw [u_n (by omega), if_pos (by omega), if_pos c.2, e]
    exact ⟨rfl, fun _ => ⟨by omega, rfl⟩⟩
  · rw [if_neg c]
    unfold hgt
    by_cases d : uN x < 2147483648
    · rw [if_pos d, h3 _ (by omega)]
      exact ⟨(if_pos d).symm, fun _ => ⟨d, rfl⟩⟩
    · exact ⟨by rw [if_neg d, if_neg d], fun z => absurd z d⟩
/-- the heap behind a move -/
theorem HQ_mv (hq : HQ g l t σ) (hb : BI g l (σ.2.2.1 3) U) (hc : ∀ q, q ∈ l → bI U q = 1 → ClU (σ.2.2.1 3) U q) (hm : MvM l (σ.2.2.1 3) U M' t) (e1 : σ'.1 1 = nI (ctB U t)) (e3 : σ'.2.2.1 3 = M') (en : σ'.2.2.2.2.1 = σ.2.2.2.2.1) : HQ (gM l U) (lsM U l) (ctB U t) σ' := by
  have sn : ∀ k, sN σ' k = sN σ k := fun k => by unfold sN; rw [en]
  have cl := ct_le U t
  have c3 := ct_lt U hq.2.1.1
  rw [ct_3 hb 3 (Nat.le_refl _)] at c3
  have tl := TlC_ge l 3 hq.2.2.2.2.2.1
  have h0 : ∀ q, q ∈ l → bI U q = 1 → M' (ctB U q) = σ.2.2.1 3 q := by
    intro q h1 h2
    have z := hm.1 q h1 (by have := tl q h1; omega) h2 0 (Nat.zero_le _)
    rw [Nat.add_zero] at z
    rw [z]
    exact if_pos (Or.inl rfl)
  refine ⟨e1, ?_, ?_, ?_, ?_, ?_, ?_⟩
  · rw [sn]
    have := hq.2.1
    omega
  · rw [sn, sn, sn]
    exact hq.2.2.1
  · exact ⟨⟨0, Or.inl (by decide), (ct_3 hb 0 (by decide)).symm⟩, ⟨1, Or.inl (by decide), (ct_3 hb 1 (by decide)).symm⟩, ⟨2, Or.inl (by decide), (ct_3 hb 2 (by decide)).symm⟩⟩
  · rw [e3, hm.2 0 (by decide), hm.2 1 (by decide), hm.2 2 (by decide)]
    exact hq.2.2.2.2.1
  · rw [e3]
    have z := TlC_mv hb h0 l 3 (fun _ z => z) hq.2.2.2.2.2.1
    rw [ct_3 hb 3 (Nat.le_refl _)] at z
    exact z
  · rw [e3]
    intro p hp
    obtain ⟨q, d, e⟩ := hp
    rcases d with d | ⟨ql, q1⟩
    · have ep : p = q := by rw [e]; exact ct_3 hb q (by omega)
      subst ep
      refine ⟨Or.inl d, ?_⟩
      have gq : g p := by
        rcases (show p = 0 ∨ p = 1 ∨ p = 2 by omega) with z | z | z <;> rw [z]
        · exact hq.2.2.2.1.1
        · exact hq.2.2.2.1.2.1
        · exact hq.2.2.2.1.2.2
      have cg := (hq.2.2.2.2.2.2 p gq).2
      have eh := hm.2 p d
      have l0 : hdL (uN (σ.2.2.1 3 p)) = 0 := by
        rcases (show p = 0 ∨ p = 1 ∨ p = 2 by omega) with z | z | z <;> rw [z]
        · rw [hq.2.2.2.2.1.1]; decide
        · rw [hq.2.2.2.2.1.2.1]; decide
        · rw [hq.2.2.2.2.1.2.2]; decide
      have w0 : hdW (uN (σ.2.2.1 3 p)) = 0 := by
        unfold hdW
        rw [l0]
        split <;> rfl
      unfold CGo at cg ⊢
      rw [eh]
      refine ⟨cg.1, by omega, cg.2.2.1, cg.2.2.2.1, cg.2.2.2.2.1, fun k => ⟨by omega, (cg.2.2.2.2.2.1 k).2.1, fun i hi => absurd hi (by omega)⟩, fun _ _ i hi => absurd hi (by omega)⟩
    · have gq := hb.2.1 q ql q1
      have cg := (hq.2.2.2.2.2.2 q gq).2
      have tq := tl q ql
      have eh := h0 q ql q1
      have lt := ct_lt U (show q + (hdW (uN (σ.2.2.1 3 q)) + 1) ≤ t by omega)
      rw [ct_m hb ql q1 (Nat.le_refl _)] at lt
      refine ⟨Or.inr ?_, ?_⟩
      · rw [e]; exact lsM_mem l q ql q1
      · unfold CGo at cg ⊢
        rw [e, eh]
        have mem : 5 ≤ hdK (uN (σ.2.2.1 3 q)) → ∀ i, i < hdL (uN (σ.2.2.1 3 q)) → M' (ctB U q + 1 + i) = rnm U (σ.2.2.1 3 (q + 1 + i)) := by
          intro k i hi
          have w5 := hdW_5 k
          have z := hm.1 q ql (by omega) q1 (1 + i) (by omega)
          rw [show ctB U q + 1 + i = ctB U q + (1 + i) from by omega, z]
          unfold rnw
          rw [if_neg (by omega), show q + (1 + i) = q + 1 + i from by omega]
        have mv : 5 ≤ hdK (uN (σ.2.2.1 3 q)) → ∀ i, i < hdL (uN (σ.2.2.1 3 q)) → MkV U (σ.2.2.1 3 (q + 1 + i)) := fun k i hi a b => hc q ql q1 k i hi a b
        refine ⟨cg.1, by omega, cg.2.2.1, cg.2.2.2.1, cg.2.2.2.2.1, fun k => ⟨(cg.2.2.2.2.2.1 k).1, (cg.2.2.2.2.2.1 k).2.1, fun i hi => ?_⟩, fun k f i hi => ?_⟩
        · have z := (cg.2.2.2.2.2.1 k).2.2 i hi
          rw [mem k i hi, (hgt_mv hq (Or.inl z.1) (mv k i hi) h0 hm.2).1]
          exact ⟨Gv_mv hq hb z.1 (mv k i hi), z.2⟩
        · have k5 : 5 ≤ hdK (uN (σ.2.2.1 3 q)) := by omega
          have z := (cg.2.2.2.2.2.1 k5).2.2 i hi
          have y := cg.2.2.2.2.2.2 k f i hi
          have w := (hgt_mv hq (Or.inl z.1) (mv k5 i hi) h0 hm.2).2 y.1
          rw [mem k5 i hi, w.2]
          exact ⟨w.1, y.2⟩
end CSN
end JnS376
section JnS377
/-! The class: room is made. -/
section CSO
variable {g g' g2 : Nat → Prop} {l l' l2 : List Nat} {t t' t2 : Nat} {σ σ' σ2 : CS} {L : LV} {x y i : Int32} {M M' U U' : Nat → Int32} {K K' K2 K3 K4 : Nat → Option Int32}
/-- what one row may still cost -/
def pC (σ : CS) (k n : Nat) : Nat := if sN σ k < n then 1 else 0
def pS (σ : CS) (k n : Nat) : Nat := if sN σ k < n then n else 0
/-- the code's rows: each may be made once -/
def cdC (σ : CS) : Nat := pC σ 43 36864 + pC σ 51 36864
def cdS (σ : CS) : Nat := pS σ 43 36864 + pS σ 51 36864
/-- what rows may still cost -/
def PhC (σ : CS) : Nat := pC σ 3 160000 + pC σ 1 5000 + pC σ 2 5000 + pC σ 20 91000 + pC σ 21 44200 + pC σ 22 60000 + pC σ 26 20000 + pC σ 41 21504 + pC σ 42 16384 + pC σ 66 10400 + (tpC (sN σ 38) + cdC σ)
def PhS (σ : CS) : Nat := pS σ 3 160000 + pS σ 1 5000 + pS σ 2 5000 + pS σ 20 91000 + pS σ 21 44200 + pS σ 22 60000 + pS σ 26 20000 + pS σ 41 21504 + pS σ 42 16384 + pS σ 66 10400 + (tpS (sN σ 38) + cdS σ)
theorem Ph_z3 (h : sN σ 3 < 160000) : PhC (uZ σ 3 160000) + 1 ≤ PhC σ ∧ PhS (uZ σ 3 160000) + 160000 ≤ PhS σ := by
  have a1 : pC (uZ σ 3 160000) 3 160000 = 0 := if_neg (Nat.lt_irrefl 160000)
  have a2 : pS (uZ σ 3 160000) 3 160000 = 0 := if_neg (Nat.lt_irrefl 160000)
  have b1 : pC σ 3 160000 = 1 := if_pos h
  have b2 : pS σ 3 160000 = 160000 := if_pos h
  unfold PhC PhS
  show (pC (uZ σ 3 160000) 3 160000 + pC σ 1 5000 + pC σ 2 5000 + pC σ 20 91000 + pC σ 21 44200 + pC σ 22 60000 + pC σ 26 20000 + pC σ 41 21504 + pC σ 42 16384 + pC σ 66 10400 + (tpC (sN σ 38) + cdC σ)) + 1 ≤ _ ∧ (pS (uZ σ 3 160000) 3 160000 + pS σ 1 5000 + pS σ 2 5000 + pS σ 20 91000 + pS σ 21 44200 + pS σ 22 60000 + pS σ 26 20000 + pS σ 41 21504 + pS σ 42 16384 + pS σ 66 10400 + (tpS (sN σ 38) + cdS σ)) + 160000 ≤ _
  rw [a1, a2, b1, b2]
  omega
theorem Ph_z1 (h : sN σ 1 < 5000) : PhC (uZ σ 1 5000) + 1 ≤ PhC σ ∧ PhS (uZ σ 1 5000) + 5000 ≤ PhS σ := by
  have a1 : pC (uZ σ 1 5000) 1 5000 = 0 := if_neg (Nat.lt_irrefl 5000)
  have a2 : pS (uZ σ 1 5000) 1 5000 = 0 := if_neg (Nat.lt_irrefl 5000)
  have b1 : pC σ 1 5000 = 1 := if_pos h
  have b2 : pS σ 1 5000 = 5000 := if_pos h
  unfold PhC PhS
  show (pC σ 3 160000 + pC (uZ σ 1 5000) 1 5000 + pC σ 2 5000 + pC σ 20 91000 + pC σ 21 44200 + pC σ 22 60000 + pC σ 26 20000 + pC σ 41 21504 + pC σ 42 16384 + pC σ 66 10400 + (tpC (sN σ 38) + cdC σ)) + 1 ≤ _ ∧ (pS σ 3 160000 + pS (uZ σ 1 5000) 1 5000 + pS σ 2 5000 + pS σ 20 91000 + pS σ 21 44200 + pS σ 22 60000 + pS σ 26 20000 + pS σ 41 21504 + pS σ 42 16384 + pS σ 66 10400 + (tpS (sN σ 38) + cdS σ)) + 5000 ≤ _
  rw [a1, a2, b1, b2]
  omega
theorem Ph_z2 (h : sN σ 2 < 5000) : PhC (uZ σ 2 5000) + 1 ≤ PhC σ ∧ PhS (uZ σ 2 5000) + 5000 ≤ PhS σ := by
  have a1 : pC (uZ σ 2 5000) 2 5000 = 0 := if_neg (Nat.lt_irrefl 5000)
  have a2 : pS (uZ σ 2 5000) 2 5000 = 0 := if_neg (Nat.lt_irrefl 5000)
  have b1 : pC σ 2 5000 = 1 := if_pos h
  have b2 : pS σ 2 5000 = 5000 := if_pos h
  unfold PhC PhS
  show (pC σ 3 160000 + pC σ 1 5000 + pC (uZ σ 2 5000) 2 5000 + pC σ 20 91000 + pC σ 21 44200 + pC σ 22 60000 + pC σ 26 20000 + pC σ 41 21504 + pC σ 42 16384 + pC σ 66 10400 + (tpC (sN σ 38) + cdC σ)) + 1 ≤ _ ∧ (pS σ 3 160000 + pS σ 1 5000 + pS (uZ σ 2 5000) 2 5000 + pS σ 20 91000 + pS σ 21 44200 + pS σ 22 60000 + pS σ 26 20000 + pS σ 41 21504 + pS σ 42 16384 + pS σ 66 10400 + (tpS (sN σ 38) + cdS σ)) + 5000 ≤ _
  rw [a1, a2, b1, b2]
  omega
theorem Ph_z20 (h : sN σ 20 < 91000) : PhC (uZ σ 20 91000) + 1 ≤ PhC σ ∧ PhS (uZ σ 20 91000) + 91000 ≤ PhS σ := by
  have a1 : pC (uZ σ 20 91000) 20 91000 = 0 := if_neg (Nat.lt_irrefl 91000)
  have a2 : pS (uZ σ 20 91000) 20 91000 = 0 := if_neg (Nat.lt_irrefl 91000)
  have b1 : pC σ 20 91000 = 1 := if_pos h
  have b2 : pS σ 20 91000 = 91000 := if_pos h
  unfold PhC PhS
  show (pC σ 3 160000 + pC σ 1 5000 + pC σ 2 5000 + pC (uZ σ 20 91000) 20 91000 + pC σ 21 44200 + pC σ 22 60000 + pC σ 26 20000 + pC σ 41 21504 + pC σ 42 16384 + pC σ 66 10400 + (tpC (sN σ 38) + cdC σ)) + 1 ≤ _ ∧ (pS σ 3 160000 + pS σ 1 5000 + pS σ 2 5000 + pS (uZ σ 20 91000) 20 91000 + pS σ 21 44200 + pS σ 22 60000 + pS σ 26 20000 + pS σ 41 21504 + pS σ 42 16384 + pS σ 66 10400 + (tpS (sN σ 38) + cdS σ)) + 91000 ≤ _
  rw [a1, a2, b1, b2]
  omega
theorem Ph_z21 (h : sN σ 21 < 44200) : PhC (uZ σ 21 44200) + 1 ≤ PhC σ ∧ PhS (uZ σ 21 44200) + 44200 ≤ PhS σ := by
  have a1 : pC (uZ σ 21 44200) 21 44200 = 0 := if_neg (Nat.lt_irrefl 44200)
  have a2 : pS (uZ σ 21 44200) 21 44200 = 0 := if_neg (Nat.lt_irrefl 44200)
  have b1 : pC σ 21 44200 = 1 := if_pos h
  have b2 : pS σ 21 44200 = 44200 := if_pos h
  unfold PhC PhS
  show (pC σ 3 160000 + pC σ 1 5000 + pC σ 2 5000 + pC σ 20 91000 + pC (uZ σ 21 44200) 21 44200 + pC σ 22 60000 + pC σ 26 20000 + pC σ 41 21504 + pC σ 42 16384 + pC σ 66 10400 + (tpC (sN σ 38) + cdC σ)) + 1 ≤ _ ∧ (pS σ 3 160000 + pS σ 1 5000 + pS σ 2 5000 + pS σ 20 91000 + pS (uZ σ 21 44200) 21 44200 + pS σ 22 60000 + pS σ 26 20000 + pS σ 41 21504 + pS σ 42 16384 + pS σ 66 10400 + (tpS (sN σ 38) + cdS σ)) + 44200 ≤ _
  rw [a1, a2, b1, b2]
  omega
theorem Ph_z22 (h : sN σ 22 < 60000) : PhC (uZ σ 22 60000) + 1 ≤ PhC σ ∧ PhS (uZ σ 22 60000) + 60000 ≤ PhS σ := by
  have a1 : pC (uZ σ 22 60000) 22 60000 = 0 := if_neg (Nat.lt_irrefl 60000)
  have a2 : pS (uZ σ 22 60000) 22 60000 = 0 := if_neg (Nat.lt_irrefl 60000)
  have b1 : pC σ 22 60000 = 1 := if_pos h
  have b2 : pS σ 22 60000 = 60000 := if_pos h
  unfold PhC PhS
  show (pC σ 3 160000 + pC σ 1 5000 + pC σ 2 5000 + pC σ 20 91000 + pC σ 21 44200 + pC (uZ σ 22 60000) 22 60000 + pC σ 26 20000 + pC σ 41 21504 + pC σ 42 16384 + pC σ 66 10400 + (tpC (sN σ 38) + cdC σ)) + 1 ≤ _ ∧ (pS σ 3 160000 + pS σ 1 5000 + pS σ 2 5000 + pS σ 20 91000 + pS σ 21 44200 + pS (uZ σ 22 60000) 22 60000 + pS σ 26 20000 + pS σ 41 21504 + pS σ 42 16384 + pS σ 66 10400 + (tpS (sN σ 38) + cdS σ)) + 60000 ≤ _
  rw [a1, a2, b1, b2]
  omega
theorem Ph_z26 (h : sN σ 26 < 20000) : PhC (uZ σ 26 20000) + 1 ≤ PhC σ ∧ PhS (uZ σ 26 20000) + 20000 ≤ PhS σ := by
  have a1 : pC (uZ σ 26 20000) 26 20000 = 0 := if_neg (Nat.lt_irrefl 20000)
  have a2 : pS (uZ σ 26 20000) 26 20000 = 0 := if_neg (Nat.lt_irrefl 20000)
  have b1 : pC σ 26 20000 = 1 := if_pos h
  have b2 : pS σ 26 20000 = 20000 := if_pos h
  unfold PhC PhS
  show (pC σ 3 160000 + pC σ 1 5000 + pC σ 2 5000 + pC σ 20 91000 + pC σ 21 44200 + pC σ 22 60000 + pC (uZ σ 26 20000) 26 20000 + pC σ 41 21504 + pC σ 42 16384 + pC σ 66 10400 + (tpC (sN σ 38) + cdC σ)) + 1 ≤ _ ∧ (pS σ 3 160000 + pS σ 1 5000 + pS σ 2 5000 + pS σ 20 91000 + pS σ 21 44200 + pS σ 22 60000 + pS (uZ σ 26 20000) 26 20000 + pS σ 41 21504 + pS σ 42 16384 + pS σ 66 10400 + (tpS (sN σ 38) + cdS σ)) + 20000 ≤ _
  rw [a1, a2, b1, b2]
  omega
theorem Ph_z41 (h : sN σ 41 < 21504) : PhC (uZ σ 41 21504) + 1 ≤ PhC σ ∧ PhS (uZ σ 41 21504) + 21504 ≤ PhS σ := by
  have a1 : pC (uZ σ 41 21504) 41 21504 = 0 := if_neg (Nat.lt_irrefl 21504)
  have a2 : pS (uZ σ 41 21504) 41 21504 = 0 := if_neg (Nat.lt_irrefl 21504)
  have b1 : pC σ 41 21504 = 1 := if_pos h
  have b2 : pS σ 41 21504 = 21504 := if_pos h
  unfold PhC PhS
  show (pC σ 3 160000 + pC σ 1 5000 + pC σ 2 5000 + pC σ 20 91000 + pC σ 21 44200 + pC σ 22 60000 + pC σ 26 20000 + pC (uZ σ 41 21504) 41 21504 + pC σ 42 16384 + pC σ 66 10400 + (tpC (sN σ 38) + cdC σ)) + 1 ≤ _ ∧ (pS σ 3 160000 + pS σ 1 5000 + pS σ 2 5000 + pS σ 20 91000 + pS σ 21 44200 + pS σ 22 60000 + pS σ 26 20000 + pS (uZ σ 41 21504) 41 21504 + pS σ 42 16384 + pS σ 66 10400 + (tpS (sN σ 38) + cdS σ)) + 21504 ≤ _
  rw [a1, a2, b1, b2]
  omega
theorem Ph_z42 (h : sN σ 42 < 16384) : PhC (uZ σ 42 16384) + 1 ≤ PhC σ ∧ PhS (uZ σ 42 16384) + 16384 ≤ PhS σ := by
  have a1 : pC (uZ σ 42 16384) 42 16384 = 0 := if_neg (Nat.lt_irrefl 16384)
  have a2 : pS (uZ σ 42 16384) 42 16384 = 0 := if_neg (Nat.lt_irrefl 16384)
  have b1 : pC σ 42 16384 = 1 := if_pos h
  have b2 : pS σ 42 16384 = 16384 := if_pos h
  unfold PhC PhS
  show (pC σ 3 160000 + pC σ 1 5000 + pC σ 2 5000 + pC σ 20 91000 + pC σ 21 44200 + pC σ 22 60000 + pC σ 26 20000 + pC σ 41 21504 + pC (uZ σ 42 16384) 42 16384 + pC σ 66 10400 + (tpC (sN σ 38) + cdC σ)) + 1 ≤ _ ∧ (pS σ 3 160000 + pS σ 1 5000 + pS σ 2 5000 + pS σ 20 91000 + pS σ 21 44200 + pS σ 22 60000 + pS σ 26 20000 + pS σ 41 21504 + pS (uZ σ 42 16384) 42 16384 + pS σ 66 10400 + (tpS (sN σ 38) + cdS σ)) + 16384 ≤ _
  rw [a1, a2, b1, b2]
  omega
theorem Ph_z66 (h : sN σ 66 < 10400) : PhC (uZ σ 66 10400) + 1 ≤ PhC σ ∧ PhS (uZ σ 66 10400) + 10400 ≤ PhS σ := by
  have a1 : pC (uZ σ 66 10400) 66 10400 = 0 := if_neg (Nat.lt_irrefl 10400)
  have a2 : pS (uZ σ 66 10400) 66 10400 = 0 := if_neg (Nat.lt_irrefl 10400)
  have b1 : pC σ 66 10400 = 1 := if_pos h
  have b2 : pS σ 66 10400 = 10400 := if_pos h
  unfold PhC PhS
  show (pC σ 3 160000 + pC σ 1 5000 + pC σ 2 5000 + pC σ 20 91000 + pC σ 21 44200 + pC σ 22 60000 + pC σ 26 20000 + pC σ 41 21504 + pC σ 42 16384 + pC (uZ σ 66 10400) 66 10400 + (tpC (sN σ 38) + cdC σ)) + 1 ≤ _ ∧ (pS σ 3 160000 + pS σ 1 5000 + pS σ 2 5000 + pS σ 20 91000 + pS σ 21 44200 + pS σ 22 60000 + pS σ 26 20000 + pS σ 41 21504 + pS σ 42 16384 + pS (uZ σ 66 10400) 66 10400 + (tpS (sN σ 38) + cdS σ)) + 10400 ≤ _
  rw [a1, a2, b1, b2]
  omega
/-- what a call costs, out of that -/
def CoP (σ : CS) (r : RS) : Prop := r.2.2.1 + PhC r.2.1 ≤ PhC σ ∧ r.2.2.2 + PhS r.2.1 ≤ PhS σ
theorem CoP_t {r q : RS} (a : CoP σ r) (b : CoP r.2.1 q) : CoP σ (q.1, q.2.1, (r.2.2.1 + q.2.2.1, r.2.2.2 + q.2.2.2)) := by
  have a1 := a.1
  have a2 := a.2
  have b1 := b.1
  have b2 := b.2
  exact ⟨by show r.2.2.1 + q.2.2.1 + PhC q.2.1 ≤ PhC σ; omega, by show r.2.2.2 + q.2.2.2 + PhS q.2.1 ≤ PhS σ; omega⟩
theorem Ph_s (e : σ'.2.2.2.2.1 = σ.2.2.2.2.1) : PhC σ' = PhC σ ∧ PhS σ' = PhS σ := by
  unfold PhC PhS cdC cdS pC pS sN
  rw [e]
  exact ⟨rfl, rfl⟩
theorem CoP_0 {v : Nat × Int32} (e : σ'.2.2.2.2.1 = σ.2.2.2.2.1) : CoP σ (v, σ', (0, 0)) := by
  have q := Ph_s e
  exact ⟨by show 0 + PhC σ' ≤ _; omega, by show 0 + PhS σ' ≤ _; omega⟩
/-- a call that throws nothing, behind it another -/
theorem Tm_oxc {x : Nat → Option RS} {f : Nat → RS → Option RS} {P Q : RS → Prop} (t : Tm x P) (hz : ∀ r, P r → r.1.1 = 0) (h : ∀ r, P r → Tm (fun k => f k r) (fun q => Q (q.1, q.2.1, (r.2.2.1 + q.2.2.1, r.2.2.2 + q.2.2.2)))) : Tm (fun k => ox (x k) (f k)) Q := Tm_ox t (fun r p n => absurd (hz r p) n) (fun r p _ => h r p)
/-- a slot that holds what is gone over -/
def mkR : Int32 := -2147483648
/-- no cell of a whole -/
def NoW (M : Nat → Int32) (x : Int32) : Prop := uN x < 2147483648 → ¬ hdK (uN (M (uN x))) = 2
/-- a place that holds a tuple -/
def mkT : Int32 := -2147483647
def NoT (M : Nat → Int32) (x : Int32) : Prop := uN x < 2147483648 → 5 ≤ hdK (uN (M (uN x)))
/-- a place that may hold a number of the machine's own -/
def mkC : Int32 := -2147483646
/-- what marks say -/
def Mkd (g : Nat → Prop) (M : Nat → Int32) (v x : Int32) : Prop := (v = mkR ∧ Gv g x ∧ NoW M x) ∨ (v = mkT ∧ Gv g x ∧ NoT M x) ∨ v = mkC
/-- values of a row, some of them pinned, some no wholes -/
def Rwk (g : Nat → Prop) (M : Nat → Int32) (K : Nat → Option Int32) (f : Nat → Int32) (n : Nat) : Prop := ∀ j, j < n → Gw g (f j) ∧ (K j = none → Gv g (f j)) ∧ ∀ v, K j = some v → (f j = v ∧ Rr v) ∨ Mkd g M v (f j)
theorem Rwn {x : Int32} (hx : Gv g x) : Gw g x ∧ ((none : Option Int32) = none → Gv g x) ∧ ∀ v, (none : Option Int32) = some v → (x = v ∧ Rr v) ∨ Mkd g M v x := ⟨Or.inl hx, fun _ => hx, fun v e => (by cases e)⟩
theorem Rwp {x : Int32} (hx : Rr x) : Gw g x ∧ (some x = none → Gv g x) ∧ ∀ v, some x = some v → (x = v ∧ Rr v) ∨ Mkd g M v x := ⟨Or.inr hx, fun e => (by cases e), fun v e => (by cases e; exact Or.inl ⟨rfl, hx⟩)⟩
theorem Rwm {x : Int32} (hx : Gv g x) (nw : NoW M x) : Gw g x ∧ (some mkR = none → Gv g x) ∧ ∀ v, some mkR = some v → (x = v ∧ Rr v) ∨ Mkd g M v x := ⟨Or.inl hx, fun e => (by cases e), fun v e => (by cases e; exact Or.inr (Or.inl ⟨rfl, hx, nw⟩))⟩
theorem Rwt {x : Int32} (hx : Gv g x) (nt : NoT M x) : Gw g x ∧ (some mkT = none → Gv g x) ∧ ∀ v, some mkT = some v → (x = v ∧ Rr v) ∨ Mkd g M v x := ⟨Or.inl hx, fun e => (by cases e), fun v e => (by cases e; exact Or.inr (Or.inr (Or.inl ⟨rfl, hx, nt⟩)))⟩
theorem Rwc {x : Int32} (hx : Gw g x) : Gw g x ∧ (some mkC = none → Gv g x) ∧ ∀ v, some mkC = some v → (x = v ∧ Rr v) ∨ Mkd g M v x := ⟨hx, fun e => (by cases e), fun v e => (by cases e; exact Or.inr (Or.inr (Or.inr rfl)))⟩
def KN : Nat → Option Int32 := fun _ => none
/-- how much of the saves' row is in use -/
def usI (σ : CS) : Int32 := if σ.1 2405 = 0 then σ.1 2403 else σ.1 2403 + σ.1 (100 * (28 + sPi σ 8) + 2) + σ.1 (100 * (28 + sPi σ 8) + 13)
/-- the values that the machine holds -/
def VI (g : Nat → Prop) (K K2 K3 K4 : Nat → Option Int32) (σ : CS) : Prop := (uN (σ.1 1902) ≤ sN σ 20 ∧ (1024 ≤ sN σ 20 ∧ sN σ 20 ≤ 91000) ∧ Rwk g (σ.2.2.1 3) K (σ.2.2.1 20) (uN (σ.1 1902))) ∧ Rwk g (σ.2.2.1 3) K4 (σ.2.2.1 23) 3780 ∧ (uN (σ.1 1913) ≤ sN σ 21 ∧ sN σ 21 ≤ 44200 ∧ Rwk g (σ.2.2.1 3) K2 (σ.2.2.1 21) (uN (σ.1 1913))) ∧ Rwk g (σ.2.2.1 3) KN (σ.2.2.1 67) 27 ∧ sPi σ 8 < 9 ∧ uN (usI σ) ≤ sN σ 26 ∧ sN σ 26 ≤ 20000 ∧ Rwk g (σ.2.2.1 3) K3 (σ.2.2.1 26) (uN (usI σ))
theorem c_used (h8 : sPi σ 8 < 9) : Tm (fun k => y_X9_used k 0 L σ) (fun r => r = (usI σ, σ)) := by
  unfold usI
  refine Tm_suc (fun k => by rw [y_X9_used]) ?_
  refine Tm_ite (fun c => ?_) (fun c => ?_)
  · rw [if_pos c]
    refine Tm_suc (fun k => by rw [y_X9_used]) ?_
    refine Tm_suc (fun k => by rw [y_X9_used]) ?_
    exact Tm_some rfl
  · rw [if_neg c]
    refine Tm_chk (by decide) ?_
    refine Tm_chk h8 ?_
    refine Tm_chk (by decide) ?_
    refine Tm_chk h8 ?_
    refine Tm_suc (fun k => by rw [y_X9_used]) ?_
    exact Tm_some rfl
theorem rnm_r (h : 2147483648 ≤ uN x) : rnm U x = x := if_neg (by omega)
theorem Rwk_mv {f f' : Nat → Int32} {n : Nat} (hq : HQ g l t σ) (hb : BI g l (σ.2.2.1 3) U) (h0 : ∀ q, q ∈ l → bI U q = 1 → M' (ctB U q) = σ.2.2.1 3 q) (h3 : ∀ p, p < 3 → M' p = σ.2.2.1 3 p) (h : Rwk g (σ.2.2.1 3) K f n) (hm : ∀ j, j < n → MkV U (f j)) (e : ∀ j, j < n → f' j = rnm U (f j)) : Rwk (gM l U) M' K f' n := by
  intro j hj
  rw [e j hj]
  refine ⟨?_, fun hn => Gv_mv hq hb ((h j hj).2.1 hn) (hm j hj), fun v hv => ?_⟩
  · rcases (h j hj).1 with z | z
    · exact Or.inl (Gv_mv hq hb z (hm j hj))
    · have zr : 4026531840 ≤ uN (f j) := z
      rw [rnm_r (by omega)]
      exact Or.inr z
  rcases (h j hj).2.2 v hv with z | z
  · have zr : 4026531840 ≤ uN v := z.2
    rw [z.1, rnm_r (by omega)]
    exact Or.inl ⟨rfl, z.2⟩
  · refine Or.inr (z.imp (fun z => ⟨z.1, Gv_mv hq hb z.2.1 (hm j hj), fun lt => ?_⟩) (fun z => z.imp (fun z => ⟨z.1, Gv_mv hq hb z.2.1 (hm j hj), fun lt => ?_⟩) id))
    · by_cases d : uN (f j) < 2147483648
      · rw [((hgt_mv hq (h j hj).1 (hm j hj) h0 h3).2 d).2]
        exact z.2.2 d
      · rw [rnm_r (by omega)] at lt
        exact absurd lt d
    · by_cases d : uN (f j) < 2147483648
      · rw [((hgt_mv hq (h j hj).1 (hm j hj) h0 h3).2 d).2]
        exact z.2.2 d
      · rw [rnm_r (by omega)] at lt
        exact absurd lt d
/-- what moving leaves alone -/
def MvF (σ σ' : CS) : Prop := (∀ j, ¬ j = 1 → σ'.1 j = σ.1 j) ∧ σ'.2.1 = σ.2.1 ∧ (∀ k, ¬ (k = 1 ∨ k = 2 ∨ k = 3 ∨ k = 20 ∨ k = 21 ∨ k = 23 ∨ k = 26 ∨ k = 67) → σ'.2.2.1 k = σ.2.2.1 k) ∧ σ'.2.2.2 = σ.2.2.2
theorem MvF_t (a : MvF σ σ') (b : MvF σ' σ2) : MvF σ σ2 := ⟨fun j hj => (b.1 j hj).trans (a.1 j hj), b.2.1.trans a.2.1, fun k hk => (b.2.2.1 k hk).trans (a.2.2.1 k hk), b.2.2.2.trans a.2.2.2⟩
/-- lengths of what the stack holds stay -/
def LnS (σ σ' : CS) : Prop := ∀ j, j < uN (σ.1 1902) → kdC (σ'.2.2.1 3) (σ'.2.2.1 20 j) = kdC (σ.2.2.1 3) (σ.2.2.1 20 j) ∧ (2147483648 ≤ uN (σ.2.2.1 20 j) → σ'.2.2.1 20 j = σ.2.2.1 20 j)
theorem LnS_r (σ : CS) : LnS σ σ := fun _ _ => ⟨rfl, fun _ => rfl⟩
theorem LnS_t (a : LnS σ σ') (e : σ'.1 1902 = σ.1 1902) (b : LnS σ' σ2) : LnS σ σ2 := fun j hj => ⟨(b j (by rw [e]; exact hj)).1.trans (a j hj).1, fun h => ((b j (by rw [e]; exact hj)).2 (by rw [(a j hj).2 h]; exact h)).trans ((a j hj).2 h)⟩
theorem kdC_mv (hq : HQ g l t σ) (hx : Gw g x) (hm : MkV U x) (h0 : ∀ q, q ∈ l → bI U q = 1 → M' (ctB U q) = σ.2.2.1 3 q) (h3 : ∀ p, p < 3 → M' p = σ.2.2.1 3 p) : kdC M' (rnm U x) = kdC (σ.2.2.1 3) x := by
  by_cases d : uN x < 2147483648
  · have z := (hgt_mv hq hx hm h0 h3).2 d
    unfold kdC
    rw [if_pos z.1, if_pos d, z.2]
  · rw [rnm_r (by omega)]
    unfold kdC
    rw [if_neg d, if_neg d]
theorem c_moveAll (h : HQ g l t σ) (v : VI g K K2 K3 K4 σ) : Tm (fun k => y_X3_moveAll k 0 L σ) (fun r => ∃ (g' : Nat → Prop) (l' : List Nat) (t' : Nat), HQ g' l' t' r.2 ∧ VI g' K K2 K3 K4 r.2 ∧ MvF σ r.2 ∧ LnS σ r.2) := by
  obtain ⟨⟨v1, v2, v3⟩, v4, ⟨v5, v6, v7⟩, v8, v9, v10, v11, v12⟩ := v
  have n23 : uN (Int32.ofNat 3780) = 3780 := by decide
  have n67 : uN (Int32.ofNat 27) = 27 := by decide
  refine Tm_suc (fun k => by rw [y_X3_moveAll]) ?_
  refine Tm_oc (c_beginMarking h) (fun r1 q1 => ?_)
  obtain ⟨U0, e1, b0, z0⟩ := q1
  rw [e1]
  refine Tm_oc (c_markRow20 (HQ_f h (k := 1) (by decide) U0) b0 (by show sN σ 20 ≤ _; omega) v1 (fun j hj => (v3 j hj).1)) (fun r2 q2 => ?_)
  obtain ⟨U1, e2, m1, w1⟩ := q2
  rw [e2, uF_f]
  refine Tm_oc (c_markRow23 (HQ_f h (k := 1) (by decide) U1) m1.1 (by decide) (by show uN (Int32.ofNat 3780) ≤ 3780; omega) (fun j hj => (v4 j (by have hj' : j < uN (Int32.ofNat 3780) := hj; omega)).1)) (fun r3 q3 => ?_)
  obtain ⟨U2, e3, m2, w2⟩ := q3
  rw [e3, uF_f]
  refine Tm_oc (c_markRow21 (HQ_f h (k := 1) (by decide) U2) m2.1 (by show sN σ 21 ≤ _; omega) v5 (fun j hj => (v7 j hj).1)) (fun r4 q4 => ?_)
  obtain ⟨U3, e4, m3, w3⟩ := q4
  rw [e4, uF_f]
  refine Tm_oc (c_markRow67 (HQ_f h (k := 1) (by decide) U3) m3.1 (by decide) (by show uN (Int32.ofNat 27) ≤ 27; omega) (fun j hj => (v8 j (by have hj' : j < uN (Int32.ofNat 27) := hj; omega)).1)) (fun r5 q5 => ?_)
  obtain ⟨U4, e5, m4, w4⟩ := q5
  rw [e5, uF_f]
  refine Tm_oc (c_used (σ := uF σ 1 U4) v9) (fun r6 e6 => ?_)
  rw [e6]
  refine Tm_oc (c_markRow26 (HQ_f h (k := 1) (by decide) U4) m4.1 (by show sN σ 26 ≤ _; omega) v10 (fun j hj => (v12 j hj).1)) (fun r7 q7 => ?_)
  obtain ⟨U5, e7, m5, w5⟩ := q7
  rw [e7, uF_f]
  have mm : MkU g l (uF σ 1 U0) U5 := MkU_t (MkU_t (MkU_t (MkU_t m1 m2) m3) m4) m5
  have up : ∀ p, bI U4 p = 1 → bI U5 p = 1 := m5.2.1
  have up3 : ∀ p, bI U3 p = 1 → bI U5 p = 1 := fun p hp => up p (m4.2.1 p hp)
  have up2 : ∀ p, bI U2 p = 1 → bI U5 p = 1 := fun p hp => up3 p (m3.2.1 p hp)
  have up1 : ∀ p, bI U1 p = 1 → bI U5 p = 1 := fun p hp => up2 p (m2.2.1 p hp)
  have bb : BI g l (σ.2.2.1 3) U5 := mm.1
  have cc : ∀ q, q ∈ l → bI U5 q = 1 → ClU (σ.2.2.1 3) U5 q := by
    intro q hq h1
    rcases mm.2.2 q hq h1 with z | z
    · have z1 : bI U0 q = 1 := z
      rw [z0 q hq] at z1
      exact absurd z1 (by decide)
    · exact z
  have iu := in_u h (p := 0) (by have := h.2.1; omega)
  refine Tm_oc (c_endMarking (σ := uF σ 1 U5) iu.2.2.1 (by show sN σ 2 = sN σ 1; rcases h.2.2.1 with z | z <;> omega)) (fun r8 q8 => ?_)
  obtain ⟨B, e8, hB⟩ := q8
  rw [e8]
  have h8 : HQ g l t (uF (uF σ 1 U5) 2 B) := HQ_f (HQ_f h (by decide) U5) (by decide) B
  refine Tm_oc (c_moveRow20 h8 hB (by show sN σ 20 ≤ _; omega) v1 (fun j hj => (v3 j hj).1)) (fun r9 q9 => ?_)
  obtain ⟨f20, e9, a20, c20⟩ := q9
  rw [e9]
  have h9 : HQ g l t (uF (uF (uF σ 1 U5) 2 B) 20 f20) := HQ_f h8 (by decide) f20
  refine Tm_oc (c_moveRow23 h9 hB (by decide) (by show uN (Int32.ofNat 3780) ≤ 3780; omega) (fun j hj => (v4 j (by have hj' : j < uN (Int32.ofNat 3780) := hj; omega)).1)) (fun r10 q10 => ?_)
  obtain ⟨f23, e10, a23, c23⟩ := q10
  rw [e10]
  have h10 : HQ g l t (uF (uF (uF (uF σ 1 U5) 2 B) 20 f20) 23 f23) := HQ_f h9 (by decide) f23
  refine Tm_oc (c_moveRow21 h10 hB (by show sN σ 21 ≤ _; omega) v5 (fun j hj => (v7 j hj).1)) (fun r11 q11 => ?_)
  obtain ⟨f21, e11, a21, c21⟩ := q11
  rw [e11]
  have h11 : HQ g l t (uF (uF (uF (uF (uF σ 1 U5) 2 B) 20 f20) 23 f23) 21 f21) := HQ_f h10 (by decide) f21
  refine Tm_oc (c_moveRow67 h11 hB (by decide) (by show uN (Int32.ofNat 27) ≤ 27; omega) (fun j hj => (v8 j (by have hj' : j < uN (Int32.ofNat 27) := hj; omega)).1)) (fun r12 q12 => ?_)
  obtain ⟨f67, e12, a67, c67⟩ := q12
  rw [e12]
  have h12 : HQ g l t (uF (uF (uF (uF (uF (uF σ 1 U5) 2 B) 20 f20) 23 f23) 21 f21) 67 f67) := HQ_f h11 (by decide) f67
  refine Tm_oc (c_used (σ := uF (uF (uF (uF (uF (uF σ 1 U5) 2 B) 20 f20) 23 f23) 21 f21) 67 f67) v9) (fun r13 e13 => ?_)
  rw [e13]
  refine Tm_oc (c_moveRow26 h12 hB (by show sN σ 26 ≤ _; omega) v10 (fun j hj => (v12 j hj).1)) (fun r14 q14 => ?_)
  obtain ⟨f26, e14, a26, c26⟩ := q14
  rw [e14]
  have h14 : HQ g l t (uF (uF (uF (uF (uF (uF (uF σ 1 U5) 2 B) 20 f20) 23 f23) 21 f21) 67 f67) 26 f26) := HQ_f h12 (by decide) f26
  refine Tm_oc (c_moveCells h14 bb hB) (fun r15 q15 => ?_)
  obtain ⟨Mc, e15a, mv⟩ := q15
  have hh0 : ∀ q, q ∈ l → bI U5 q = 1 → Mc (ctB U5 q) = σ.2.2.1 3 q := by
    intro q h1 h2
    have tl := TlC_ge l 3 h.2.2.2.2.2.1 q h1
    have z := mv.1 q h1 (by omega) h2 0 (Nat.zero_le _)
    rw [Nat.add_zero] at z
    exact z.trans (if_pos (Or.inl rfl))
  have e15 : r15.2 = hpC (uF (uF (uF (uF (uF (uF (uF σ 1 U5) 2 B) 20 f20) 23 f23) 21 f21) 67 f67) 26 f26) (ctB U5 t) Mc := e15a
  refine Tm_some ⟨gM l U5, lsM U5 l, ctB U5 t, ?_, ?_, ?_, ?_⟩
  · show HQ (gM l U5) (lsM U5 l) (ctB U5 t) r15.2
    rw [e15]
    exact HQ_mv h14 bb cc mv rfl rfl rfl
  · show VI (gM l U5) K K2 K3 K4 r15.2
    rw [e15]
    have us : usI (hpC (uF (uF (uF (uF (uF (uF (uF σ 1 U5) 2 B) 20 f20) 23 f23) 21 f21) 67 f67) 26 f26) (ctB U5 t) Mc) = usI σ := by
      unfold usI
      show (if upd σ.1 1 (nI (ctB U5 t)) 2405 = 0 then upd σ.1 1 (nI (ctB U5 t)) 2403 else upd σ.1 1 (nI (ctB U5 t)) 2403 + upd σ.1 1 (nI (ctB U5 t)) (100 * (28 + sPi σ 8) + 2) + upd σ.1 1 (nI (ctB U5 t)) (100 * (28 + sPi σ 8) + 13)) = _
      rw [upd_other (by decide), upd_other (by decide), upd_other (by omega), upd_other (by omega)]
    refine ⟨⟨v1, v2, ?_⟩, ?_, ⟨v5, v6, ?_⟩, ?_, v9, ?_, v11, ?_⟩
    · exact Rwk_mv h bb hh0 mv.2 v3 (fun j hj p q => up1 _ (w1 j hj p q)) a20
    · exact Rwk_mv h bb hh0 mv.2 v4 (fun j hj p q => up2 _ (w2 j (by show j < uN (Int32.ofNat 3780); omega) p q)) (fun j hj => a23 j (by show j < uN (Int32.ofNat 3780); omega))
    · exact Rwk_mv h bb hh0 mv.2 v7 (fun j hj p q => up3 _ (w3 j hj p q)) a21
    · exact Rwk_mv h bb hh0 mv.2 v8 (fun j hj p q => up _ (w4 j (by show j < uN (Int32.ofNat 27); omega) p q)) (fun j hj => a67 j (by show j < uN (Int32.ofNat 27); omega))
    · rw [us]; exact v10
    · rw [us]; exact Rwk_mv h bb hh0 mv.2 v12 (fun j hj p q => w5 j hj p q) a26
  · show MvF σ r15.2
    rw [e15]
    refine ⟨fun j hj => upd_other hj, rfl, fun k hk => ?_, rfl⟩
    show updG (updG (updG (updG (updG (updG (updG (updG σ.2.2.1 1 U5) 2 B) 20 f20) 23 f23) 21 f21) 67 f67) 26 f26) 3 Mc k = _
    rw [updG_other (by omega), updG_other (by omega), updG_other (by omega), updG_other (by omega), updG_other (by omega), updG_other (by omega), updG_other (by omega), updG_other (by omega)]
  · show LnS σ r15.2
    rw [e15]
    intro j hj
    show kdC Mc (f20 j) = _ ∧ (_ → f20 j = _)
    rw [show f20 j = rnm U5 (σ.2.2.1 20 j) from a20 j hj]
    refine ⟨kdC_mv h (v3 j hj).1 (fun p q => up1 _ (w1 j hj p q)) (fun q h1 h2 => ?_) mv.2, fun hr => rnm_r hr⟩
    have tl := TlC_ge l 3 h.2.2.2.2.2.1 q h1
    have z := mv.1 q h1 (by omega) h2 0 (Nat.zero_le _)
    rw [Nat.add_zero] at z
    exact z.trans (if_pos (Or.inl rfl))
/-- rows of the heap are made longer -/
theorem TlC_eq (hM : ∀ p, p < t → M' p = M p) : ∀ (l : List Nat) (a : Nat), TlC M t a l → TlC M' t a l
  | [], a, h => h
  | q :: l, a, h => by
    obtain ⟨h1, h2, h3, h4⟩ := h
    have e := hM q (by omega)
    refine ⟨h1, ?_, ?_, ?_⟩
    · rw [e]; exact h2
    · rw [e]; exact h3
    · rw [e]; exact TlC_eq hM l _ h4
theorem HQ_wd (h : HQ g l t σ) (e1 : σ'.1 1 = σ.1 1) (hM : ∀ p, p < t → σ'.2.2.1 3 p = σ.2.2.1 3 p) (n : sN σ' 3 = 160000 ∧ sN σ' 1 = 5000 ∧ sN σ' 2 = 5000) : HQ g l t σ' := by
  have a := h.2.1
  have b := HQ_n h
  refine ⟨e1.trans h.1, by omega, Or.inr n, h.2.2.2.1, ?_, TlC_eq hM l 3 h.2.2.2.2.2.1, fun p hp => ⟨(h.2.2.2.2.2.2 p hp).1, CGo_ext hM (fun _ z => z) (fun q hq => (HQ_c h hq).1) (Nat.le_refl _) (h.2.2.2.2.2.2 p hp).2⟩⟩
  rw [hM 0 (by omega), hM 1 (by omega), hM 2 (by omega)]
  exact h.2.2.2.2.1
/-- what the heap's growing leaves alone -/
def WdF (σ σ' : CS) : Prop := σ'.1 = σ.1 ∧ σ'.2.1 = σ.2.1 ∧ (∀ k, ¬ (k = 1 ∨ k = 2 ∨ k = 3) → σ'.2.2.1 k = σ.2.2.1 k ∧ sN σ' k = sN σ k) ∧ σ'.2.2.2.1 = σ.2.2.2.1 ∧ σ'.2.2.2.2.2 = σ.2.2.2.2.2
theorem c_widenH (h : HQ g l t σ) : Tm (fun k => f_X1_widen k 0 L σ) (fun r => r.1 = (0, 0) ∧ CoP σ r ∧ HQ g l t r.2.1 ∧ WdF σ r.2.1 ∧ ∀ p, p < t → r.2.1.2.2.1 3 p = σ.2.2.1 3 p) := by
  have nn := HQ_n h
  have tt := h.2.1
  have wr : WdF σ σ := ⟨rfl, rfl, fun _ _ => ⟨rfl, rfl⟩, rfl, rfl⟩
  have b1 : ∀ (L' : LV) (σ' : CS), HQ g l t σ' → WdF σ σ' → Tm (fun k => f_X1_widen k 1 L' σ') (fun r => r = ((0, 0), σ', (0, 0))) := by
    intro L' σ' _ _
    refine Tm_suc (fun k => by rw [f_X1_widen]) ?_
    exact Tm_some rfl
  refine Tm_suc (fun k => by rw [f_X1_widen]) ?_
  refine Tm_no (by decide) ?_
  refine Tm_ite (fun _ => ?_) (fun _ => ?_)
  · refine Tm_mono (b1 _ _ h wr) (fun r e => ?_)
    rw [e]
    exact ⟨rfl, CoP_0 rfl, h, wr, fun _ _ => rfl⟩
  refine Tm_chk ⟨by decide, by decide, by omega⟩ ?_
  rcases h.2.2.1 with z | z
  · -- the first rows
    refine Tm_yes ⟨by rw [z.1]; decide, by rw [z.1]; decide⟩ ?_
    refine Tm_adR ?_
    have s1 : sN (uZ σ 3 (160000 : Int32).toNatClampNeg) 1 = 512 := z.2.1
    have s2 : sN (uZ (uZ σ 3 (160000 : Int32).toNatClampNeg) 1 (5000 : Int32).toNatClampNeg) 2 = 512 := z.2.2
    refine Tm_suc (fun k => by rw [f_X1_widen]) ?_
    refine Tm_chk ⟨by decide, by decide, by rw [s1]; decide⟩ ?_
    refine Tm_yes ⟨by rw [s1]; decide, by rw [s1]; decide⟩ ?_
    refine Tm_adR ?_
    refine Tm_suc (fun k => by rw [f_X1_widen]) ?_
    refine Tm_chk ⟨by decide, by decide, by rw [s2]; decide⟩ ?_
    refine Tm_yes ⟨by rw [s2]; decide, by rw [s2]; decide⟩ ?_
    refine Tm_adR ?_
    have hm : ∀ p, p < t → (if p < sN σ 3 then σ.2.2.1 3 p else 0) = σ.2.2.1 3 p := fun p hp => if_pos (by omega)
    have hf : HQ g l t (uZ (uZ (uZ σ 3 160000) 1 5000) 2 5000) := HQ_wd h rfl hm ⟨rfl, rfl, rfl⟩
    have wf : WdF σ (uZ (uZ (uZ σ 3 160000) 1 5000) 2 5000) := by
      refine ⟨rfl, rfl, fun k hk => ⟨?_, ?_⟩, rfl, rfl⟩
      · show updG (updG (updG σ.2.2.1 3 _) 1 _) 2 _ k = _
        rw [updG_other (by omega), updG_other (by omega), updG_other (by omega)]
      · show (if k = 2 then 5000 else if k = 1 then 5000 else if k = 3 then 160000 else sN σ k) = _
        rw [if_neg (by omega), if_neg (by omega), if_neg (by omega)]
    have c1 := Ph_z3 (σ := σ) (by rw [z.1]; decide)
    have c2 := Ph_z1 (σ := uZ σ 3 160000) (by show sN σ 1 < 5000; rw [z.2.1]; decide)
    have c3 := Ph_z2 (σ := uZ (uZ σ 3 160000) 1 5000) (by show sN σ 2 < 5000; rw [z.2.2]; decide)
    refine Tm_mono (b1 _ _ hf wf) (fun r e => ?_)
    rw [e]
    refine ⟨rfl, ⟨?_, ?_⟩, hf, wf, hm⟩
    · show 1 + (1 + (1 + 0)) + PhC (uZ (uZ (uZ σ 3 160000) 1 5000) 2 5000) ≤ PhC σ
      omega
    · show 160000 + (5000 + (5000 + 0)) + PhS (uZ (uZ (uZ σ 3 160000) 1 5000) 2 5000) ≤ PhS σ
      omega
  · refine Tm_no (by intro q; rw [z.1] at q; exact absurd q.2 (by decide)) ?_
    refine Tm_suc (fun k => by rw [f_X1_widen]) ?_
    refine Tm_chk ⟨by decide, by decide, by omega⟩ ?_
    refine Tm_no (by intro q; rw [z.2.1] at q; exact absurd q.2 (by decide)) ?_
    refine Tm_suc (fun k => by rw [f_X1_widen]) ?_
    refine Tm_chk ⟨by decide, by decide, by omega⟩ ?_
    refine Tm_no (by intro q; rw [z.2.2] at q; exact absurd q.2 (by decide)) ?_
    refine Tm_mono (b1 _ _ h wr) (fun r e => ?_)
    rw [e]
    exact ⟨rfl, CoP_0 rfl, h, wr, fun _ _ => rfl⟩
theorem c_isTight : Tm (fun k => y_X1_isTight k 0 L σ) (fun r => r.2 = σ ∧ (r.1 = 0 ∨ r.1 = 1)) := by
  refine Tm_suc (fun k => by rw [y_X1_isTight]) ?_
  refine Tm_ite (fun _ => ?_) (fun _ => ?_)
  · refine Tm_suc (fun k => by rw [y_X1_isTight]) ?_
    refine Tm_suc (fun k => by rw [y_X1_isTight]) ?_
    refine Tm_chk (Or.inl rfl) ?_
    exact Tm_some ⟨rfl, Or.inl rfl⟩
  · refine Tm_suc (fun k => by rw [y_X1_isTight]) ?_
    refine Tm_chk (Or.inr rfl) ?_
    exact Tm_some ⟨rfl, Or.inr rfl⟩
theorem c_isScarce : Tm (fun k => y_X1_isScarce k 0 L σ) (fun r => r.2 = σ ∧ (r.1 = 0 ∨ r.1 = 1)) := by
  refine Tm_suc (fun k => by rw [y_X1_isScarce]) ?_
  refine Tm_no (by decide) ?_
  refine Tm_ite (fun _ => ?_) (fun _ => ?_)
  · refine Tm_suc (fun k => by rw [y_X1_isScarce]) ?_
    refine Tm_suc (fun k => by rw [y_X1_isScarce]) ?_
    refine Tm_chk (Or.inl rfl) ?_
    exact Tm_some ⟨rfl, Or.inl rfl⟩
  · refine Tm_suc (fun k => by rw [y_X1_isScarce]) ?_
    refine Tm_chk (Or.inr rfl) ?_
    exact Tm_some ⟨rfl, Or.inr rfl⟩
theorem c_drop : Tm (fun k => y_X9_drop k 0 L σ) (fun r => r = (0, uI (uI (uI σ 2403 0) 2404 0) 2405 0)) := by
  refine Tm_suc (fun k => by rw [y_X9_drop]) ?_
  refine Tm_suc (fun k => by rw [y_X9_drop]) ?_
  exact Tm_some rfl
/-- what making room leaves: values elsewhere; saves perhaps dropped -/
def RmF (σ σ' : CS) : Prop := ((∀ j, ¬ (j = 1 ∨ j = 2403 ∨ j = 2404 ∨ j = 2405) → σ'.1 j = σ.1 j) ∧ ((σ'.1 2403 = σ.1 2403 ∧ σ'.1 2404 = σ.1 2404 ∧ σ'.1 2405 = σ.1 2405) ∨ (σ'.1 2403 = 0 ∧ σ'.1 2404 = 0 ∧ σ'.1 2405 = 0))) ∧ σ'.2.1 = σ.2.1 ∧ (∀ k, ¬ (k = 1 ∨ k = 2 ∨ k = 3 ∨ k = 20 ∨ k = 21 ∨ k = 23 ∨ k = 26 ∨ k = 67) → σ'.2.2.1 k = σ.2.2.1 k) ∧ (∀ k, ¬ (k = 1 ∨ k = 2 ∨ k = 3) → sN σ' k = sN σ k) ∧ σ'.2.2.2.1 = σ.2.2.2.1 ∧ σ'.2.2.2.2.2 = σ.2.2.2.2.2
theorem RmF_r (σ : CS) : RmF σ σ := ⟨⟨fun _ _ => rfl, Or.inl ⟨rfl, rfl, rfl⟩⟩, rfl, fun _ _ => rfl, fun _ _ => rfl, rfl, rfl⟩
theorem RmF_M (a : MvF σ σ') : RmF σ σ' := ⟨⟨fun j hj => a.1 j (fun e => hj (Or.inl e)), Or.inl ⟨a.1 _ (by decide), a.1 _ (by decide), a.1 _ (by decide)⟩⟩, a.2.1, a.2.2.1, fun k _ => by unfold sN; rw [a.2.2.2], by rw [a.2.2.2], by rw [a.2.2.2]⟩
theorem RmF_W (a : WdF σ σ') : RmF σ σ' := ⟨⟨fun j _ => by rw [a.1], Or.inl ⟨by rw [a.1], by rw [a.1], by rw [a.1]⟩⟩, a.2.1, fun k hk => (a.2.2.1 k (by omega)).1, fun k hk => (a.2.2.1 k hk).2, a.2.2.2.1, a.2.2.2.2⟩
theorem RmF_d (σ : CS) : RmF σ (uI (uI (uI σ 2403 0) 2404 0) 2405 0) := ⟨⟨fun j hj => by
  show upd (upd (upd σ.1 2403 0) 2404 0) 2405 0 j = _
  rw [upd_other (by omega), upd_other (by omega), upd_other (by omega)], Or.inr ⟨rfl, rfl, rfl⟩⟩, rfl, fun _ _ => rfl, fun _ _ => rfl, rfl, rfl⟩
theorem RmF_t (a : RmF σ σ') (b : RmF σ' σ2) : RmF σ σ2 := by
  refine ⟨⟨fun j hj => (b.1.1 j hj).trans (a.1.1 j hj), ?_⟩, b.2.1.trans a.2.1, fun k hk => (b.2.2.1 k hk).trans (a.2.2.1 k hk), fun k hk => (b.2.2.2.1 k hk).trans (a.2.2.2.1 k hk), b.2.2.2.2.1.trans a.2.2.2.2.1, b.2.2.2.2.2.trans a.2.2.2.2.2⟩
  rcases b.1.2 with z | z
  · rcases a.1.2 with w | w
    · exact Or.inl ⟨z.1.trans w.1, z.2.1.trans w.2.1, z.2.2.trans w.2.2⟩
    · exact Or.inr ⟨z.1.trans w.1, z.2.1.trans w.2.1, z.2.2.trans w.2.2⟩
  · exact Or.inr z
theorem Rwk_g {f : Nat → Int32} {n : Nat} (h : Rwk g M K f n) (s : (∀ p, g p → g' p) ∧ ∀ p, g p → M' p = M p) : Rwk g' M' K f n := by
  intro j hj
  refine ⟨Gw_sg (h j hj).1 s.1, fun hn => Gv_sg ((h j hj).2.1 hn) s.1, fun v hv => ?_⟩
  rcases (h j hj).2.2 v hv with z | z
  · exact Or.inl z
  · refine Or.inr (z.imp (fun z => ⟨z.1, Gv_sg z.2.1 s.1, fun lt => ?_⟩) (fun z => z.imp (fun z => ⟨z.1, Gv_sg z.2.1 s.1, fun lt => ?_⟩) id))
    · rw [s.2 _ (Gw_c (h j hj).1 lt).2]
      exact z.2.2 lt
    · rw [s.2 _ (Gw_c (h j hj).1 lt).2]
      exact z.2.2 lt
theorem VI_W (a : WdF σ σ') (hm : ∀ p, g p → σ'.2.2.1 3 p = σ.2.2.1 3 p) (v : VI g K K2 K3 K4 σ) : VI g K K2 K3 K4 σ' := by
  have us : usI σ' = usI σ := by unfold usI sPi; rw [a.1, a.2.2.2.2]
  have s20 := a.2.2.1 20 (by decide)
  have s21 := a.2.2.1 21 (by decide)
  have s23 := a.2.2.1 23 (by decide)
  have s26 := a.2.2.1 26 (by decide)
  have s67 := a.2.2.1 67 (by decide)
  have p8 : sPi σ' 8 = sPi σ 8 := by unfold sPi; rw [a.2.2.2.2]
  unfold VI
  rw [us, a.1, s20.1, s20.2, s21.1, s21.2, s23.1, s26.1, s26.2, s67.1, p8]
  obtain ⟨v1, v2, v3, v4, v5, v6, v7, v8⟩ := v
  have sg : (∀ p, g p → g p) ∧ ∀ p, g p → σ'.2.2.1 3 p = σ.2.2.1 3 p := ⟨fun _ z => z, hm⟩
  exact ⟨⟨v1.1, v1.2.1, Rwk_g v1.2.2 sg⟩, Rwk_g v2 sg, ⟨v3.1, v3.2.1, Rwk_g v3.2.2 sg⟩, Rwk_g v4 sg, v5, v6, v7, Rwk_g v8 sg⟩
theorem VI_d (v : VI g K K2 K3 K4 σ) : VI g K K2 K3 K4 (uI (uI (uI σ 2403 0) 2404 0) 2405 0) := ⟨v.1, v.2.1, v.2.2.1, v.2.2.2.1, v.2.2.2.2.1, by show uN 0 ≤ _; exact Nat.zero_le _, v.2.2.2.2.2.2.1, fun j hj => absurd hj (by show ¬ j < uN 0; exact Nat.not_lt_zero j)⟩
/-- behind it: the values that the machine holds, in a heap -/
def RmO (K K2 K3 K4 : Nat → Option Int32) (σ : CS) (r : RS) : Prop := r.1 = (0, 0) ∧ CoP σ r ∧ RmF σ r.2.1 ∧ LnS σ r.2.1 ∧ ∃ (g' : Nat → Prop) (l' : List Nat) (t' : Nat), HQ g' l' t' r.2.1 ∧ VI g' K K2 K3 K4 r.2.1
theorem c_makeRoom (h : HQ g l t σ) (v : VI g K K2 K3 K4 σ) : Tm (fun k => f_X3_makeRoom k 0 L σ) (RmO K K2 K3 K4 σ) := by
  have b2 : ∀ (L' : LV) (σ' : CS), Tm (fun k => f_X3_makeRoom k 2 L' σ') (fun r => r = ((0, 0), σ', (0, 0))) := by
    intro L' σ'
    refine Tm_suc (fun k => by rw [f_X3_makeRoom]) ?_
    exact Tm_some rfl
  refine Tm_suc (fun k => by rw [f_X3_makeRoom]) ?_
  refine Tm_op c_isTight (fun r1 q1 => ?_)
  have e1 : r1.2 = σ := q1.1
  rw [e1]
  refine Tm_ite (fun _ => Tm_some ⟨rfl, CoP_0 rfl, RmF_r σ, LnS_r σ, g, l, t, h, v⟩) (fun _ => ?_)
  refine Tm_suc (fun k => by rw [f_X3_makeRoom]) ?_
  refine Tm_op (c_moveAll h v) (fun r2 q2 => ?_)
  obtain ⟨g2, l2, t2, h2, v2, f2, n2⟩ := q2
  refine Tm_oxc (c_widenH h2) (fun r q => by rw [q.1]) (fun r3 q3 => ?_)
  obtain ⟨z3, c3, h3, f3, n3⟩ := q3
  have n4 : LnS σ r3.2.1 := by
    refine LnS_t n2 (f2.1 1902 (by decide)) (fun j hj => ?_)
    rw [(f3.2.2.1 20 (by decide)).1]
    have gv := (v2.1.2.2 j hj).1
    refine ⟨?_, fun _ => rfl⟩
    unfold kdC
    split
    · rename_i d
      rw [n3 _ (HQ_c h2 (Gw_c gv d).2).1]
    · rfl
  have v3 := VI_W f3 (fun p hp => n3 p (HQ_c h2 hp).1) v2
  have ph := Ph_s (σ := σ) (σ' := r2.2) (by rw [f2.2.2.2])
  have fin : ∀ (σ' : CS) (L' : LV), σ'.2.2.2 = r3.2.1.2.2.2 → RmF σ σ' → LnS σ σ' → (∃ (g' : Nat → Prop) (l' : List Nat) (t' : Nat), HQ g' l' t' σ' ∧ VI g' K K2 K3 K4 σ') → Tm (fun k => f_X3_makeRoom k 2 L' σ') (fun q => RmO K K2 K3 K4 σ (q.1, q.2.1, (r3.2.2.1 + q.2.2.1, r3.2.2.2 + q.2.2.2))) := by
    intro σ' L' es ff nn ex
    refine Tm_mono (b2 L' σ') (fun r e => ?_)
    rw [e]
    have p2 := Ph_s (σ := r3.2.1) (σ' := σ') (by rw [es])
    have c1 := c3.1
    have c2 := c3.2
    exact ⟨rfl, ⟨by show r3.2.2.1 + 0 + PhC σ' ≤ PhC σ; omega, by show r3.2.2.2 + 0 + PhS σ' ≤ PhS σ; omega⟩, ff, nn, ex⟩
  have ff3 := RmF_t (RmF_M f2) (RmF_W f3)
  refine Tm_op c_isScarce (fun r4 q4 => ?_)
  have e4 : r4.2 = r3.2.1 := q4.1
  rw [e4]
  refine Tm_ite (fun _ => fin _ _ rfl ff3 n4 ⟨g2, l2, t2, h3, v3⟩) (fun _ => ?_)
  refine Tm_op (c_used v3.2.2.2.2.1) (fun r5 e5 => ?_)
  rw [e5]
  refine Tm_ite (fun _ => fin _ _ rfl ff3 n4 ⟨g2, l2, t2, h3, v3⟩) (fun _ => ?_)
  refine Tm_op c_drop (fun r6 e6 => ?_)
  rw [e6]
  refine Tm_op (c_moveAll (HQ_fr h3 rfl rfl rfl) (VI_d v3)) (fun r7 q7 => ?_)
  obtain ⟨g7, l7, t7, h7, v7, f7, n7⟩ := q7
  exact fin _ _ (by rw [f7.2.2.2]; rfl) (RmF_t ff3 (RmF_t (RmF_d _) (RmF_M f7))) (LnS_t n4 (ff3.1.1 1902 (by decide)) n7) ⟨g7, l7, t7, h7, v7⟩
end CSO
end JnS377
