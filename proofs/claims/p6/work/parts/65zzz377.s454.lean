/-! The class: numbers are read. -/
section CVM
variable {σ σ' σ0 τ τ' : CS} {L : LV} {b : Bool} {T : Nat → Int32} {n q q' u al o v mk p sz szB nc0 sz0 mk0 a1 a2 m kk f e t : Nat} {y w : Int32} {l l' cs cs' : List Int32} {tb : List Ent} {α : Type} {S : α → Int32 → CS → Prop} {C : Prop} {E : En} {gl : Nat × (Nat → Nat → Prop)} {Vm : Nat → Prop} {bt : BT}
theorem dg_1 : ∀ a : Nat, a < 10 → (nI (48 + a) - 48 = nI a ∧ ((nI a).toInt64).toInt32 = nI a) := by decide +kernel
theorem dg_2 : ∀ a : Nat, a < 10 → ∀ r : Nat, r < 10 → (((nI a).toInt64 + (((nI r).toInt64 &&& 4294967295) * 10)).toInt32 = nI (a + 10 * r) ∧ nbCmp ((((nI a).toInt64 + (((nI r).toInt64 &&& 4294967295) * 10)).toUInt64 >>> ((32 : Int32).toInt64.toUInt64 &&& Int64.toUInt64 63)).toInt64) (0 : Int64) = 0) := by decide +kernel
/-- limbs so far, of so many digits -/
def DgP (c m : Nat) (σ : CS) : Prop := m ≤ c ∧ (c ≤ 2 → m ≤ 1 ∧ (m = 1 → ∃ a, a < (if c ≤ 1 then 10 else 100) ∧ σ.2.2.1 7 0 = nI a))
theorem c_digits {s0 d0 : Nat} (hn : sN σ 38 ≤ 2147483648) (h2 : L.1 2 = nI s0) (h3 : L.1 3 = nI (s0 + d0)) (he : s0 + d0 < 2147483648) (he2 : s0 + d0 ≤ sN σ 38) (hd : ∀ i, s0 ≤ i → i < s0 + d0 → ∃ a, a < 10 ∧ σ.2.2.1 38 i = nI (48 + a)) : Tm (fun k => y_X10_readDigits__z38 k 0 L σ) (fun r => WF σ r.2 ∧ r.2.1 404 = r.1 ∧ ∃ m, r.1 = nI m ∧ m ≤ 32 ∧ DgP d0 m r.2) := by
  have b1 : ∀ (m c k : Nat) (L' : LV) (σ' : CS), WF σ σ' → L'.1 3 = nI (s0 + d0) → L'.1 5 = nI (s0 + c) → c + m = d0 → L'.1 4 = nI k → k ≤ 32 → DgP c k σ' → Tm (fun k => y_X10_readDigits__z38 k 1 L' σ') (fun r => WF σ r.2 ∧ r.2.1 404 = r.1 ∧ ∃ m, r.1 = nI m ∧ m ≤ 32 ∧ DgP d0 m r.2) := by
    intro m
    induction m with
    | zero =>
      intro c k L' σ' w a3 a5 ac a4 k32 dp
      refine Tm_suc (fun k => by rw [y_X10_readDigits__z38]) ?_
      refine Tm_yes (by rw [a3, a5, u_le (by rw [u_n (by omega)]; omega) (by rw [u_n (by omega)]; omega), u_n (by omega), u_n (by omega)]; omega) ?_
      refine Tm_suc (fun k => by rw [y_X10_readDigits__z38]) ?_
      have cd : c = d0 := by omega
      refine Tm_some ⟨⟨fun j hj => ?_, w.2.1, w.2.2.1, w.2.2.2⟩, rfl, k, a4, k32, cd ▸ dp⟩
      show upd σ'.1 404 _ j = σ.1 j
      rw [upd_other hj]
      exact w.1 j hj
    | succ m ih =>
      intro c k L' σ' w a3 a5 ac a4 k32 dp
      have b5 : ∀ (L2 : LV) (σ2 : CS) (k2 : Nat), WF σ σ2 → L2.1 3 = nI (s0 + d0) → L2.1 5 = nI (s0 + c) → L2.1 4 = nI k2 → k2 ≤ 32 → DgP (c + 1) k2 σ2 → Tm (fun k => y_X10_readDigits__z38 k 5 L2 σ2) (fun r => WF σ r.2 ∧ r.2.1 404 = r.1 ∧ ∃ m, r.1 = nI m ∧ m ≤ 32 ∧ DgP d0 m r.2) := by
        intro L2 σ2 k2 w z3 z5 z4 k32 dp
        refine Tm_suc (fun k => by rw [y_X10_readDigits__z38]) ?_
        refine ih (c + 1) k2 _ _ w z3 ?_ (by omega) z4 k32 dp
        show L2.1 5 + 1 = _
        rw [z5, n_add1]; rfl
      obtain ⟨dg, dg10, edg⟩ := hd (s0 + c) (by omega) (by omega)
      have b3 : ∀ (d : Nat) (L2 : LV) (σ2 : CS), WF σ σ2 → L2.1 3 = nI (s0 + d0) → L2.1 5 = nI (s0 + c) → L2.1 4 = nI k → uN (L2.1 8) + d = k → (c ≤ 1 → k ≤ 1 ∧ ((d = k ∧ L2.2.1 6 = (nI dg).toInt64 ∧ (k = 1 → ∃ a, a < 10 ∧ c = 1 ∧ σ2.2.2.1 7 0 = nI a)) ∨ (d = 0 ∧ k = 1 ∧ c = 1 ∧ nbCmp (L2.2.1 6) (0 : Int64) = 0 ∧ ∃ a, a < 100 ∧ σ2.2.2.1 7 0 = nI a))) → Tm (fun k => y_X10_readDigits__z38 k 3 L2 σ2) (fun r => WF σ r.2 ∧ r.2.1 404 = r.1 ∧ ∃ m, r.1 = nI m ∧ m ≤ 32 ∧ DgP d0 m r.2) := by
        intro d
        induction d with
        | zero =>
          intro L2 σ2 w z3 z5 z4 z8 iv
          refine Tm_suc (fun k => by rw [y_X10_readDigits__z38]) ?_
          refine Tm_yes (by rw [z4, u_le (by rw [u_n (by omega)]; omega) (by omega), u_n (by omega)]; omega) ?_
          refine Tm_suc (fun k => by rw [y_X10_readDigits__z38]) ?_
          have mk1 := dp.1
          refine Tm_ite (fun c0 => b5 _ _ k w z3 z5 z4 k32 ⟨by omega, fun c2 => ?_⟩) (fun c0 => Tm_ite (fun c1 => ?_) (fun c1 => ?_))
          · obtain ⟨i1, i2⟩ := iv (by omega)
            refine ⟨i1, fun k1 => ?_⟩
            rcases i2 with ⟨j1, j2, j3⟩ | ⟨j1, j2, j3, j4, a, j5, j6⟩
            · omega
            · exact ⟨a, by rw [if_neg (by omega)]; exact j5, j6⟩
          · rw [z4, u_le (by decide) (by rw [u_n (by omega)]; omega), u_n (by omega)] at c1
            have c1' : 32 ≤ k := c1
            refine b5 _ _ k w z3 z5 z4 k32 ⟨by omega, fun c2 => ?_⟩
            have := (iv (by omega)).1
            omega
          · rw [z4, u_le (by decide) (by rw [u_n (by omega)]; omega), u_n (by omega)] at c1
            have c' : k < 32 := Nat.lt_of_not_le c1
            refine Tm_chk (u_in (by rw [z4, u_n (by omega)]; omega) (by decide)) ?_
            refine b5 _ _ (k + 1) (WF_t w (WF_A _ (by decide) _ _)) z3 z5 ?_ (by omega) ⟨by omega, fun c2 => ?_⟩
            · show L2.1 4 + 1 = _
              rw [z4, n_add1]
            · obtain ⟨i1, i2⟩ := iv (by omega)
              rcases i2 with ⟨j1, j2, j3⟩ | ⟨j1, j2, j3, j4, a, j5, j6⟩
              · refine ⟨by omega, fun _ => ⟨dg, ?_, ?_⟩⟩
                · split <;> omega
                · show upd (σ2.2.2.1 7) (L2.1 4).toNatClampNeg ((L2.2.1 6).toInt32) 0 = nI dg
                  rw [z4, n_cl (by omega), ← j1, upd_same, j2]
                  exact (dg_1 dg dg10).2
              · exact absurd j4 c0
        | succ d jh =>
          intro L2 σ2 w z3 z5 z4 z8 iv
          refine Tm_suc (fun k => by rw [y_X10_readDigits__z38]) ?_
          refine Tm_ite (fun q => absurd q (by rw [z4, u_le (by rw [u_n (by omega)]; omega) (by omega), u_n (by omega)]; omega)) (fun _ => ?_)
          refine Tm_chk (u_in (by omega) (by decide)) ?_
          refine Tm_chk (u_in (by omega) (by decide)) ?_
          refine jh _ _ (WF_t w (WF_A _ (by decide) _ _)) z3 z5 z4 ?_ (fun c1 => ?_)
          · show uN (L2.1 8 + 1) + d = _
            rw [u_inc (by omega)]; omega
          · obtain ⟨i1, i2⟩ := iv c1
            rcases i2 with ⟨j1, j2, j3⟩ | ⟨j1, j2⟩
            · obtain ⟨a, a10, ec, ea⟩ := j3 (by omega)
              have e8 : (L2.1 8).toNatClampNeg = 0 := by
                rw [u_of (L2.1 8), n_cl (by omega)]
                omega
              obtain ⟨t1, t2⟩ := dg_2 dg dg10 a a10
              refine ⟨i1, Or.inr ⟨by omega, by omega, ec, ?_, dg + 10 * a, by omega, ?_⟩⟩
              · show nbCmp ((((L2.2.1 6 + (((σ2.2.2.1 7 (L2.1 8).toNatClampNeg).toInt64 &&& 4294967295) * 10))).toUInt64 >>> ((32 : Int32).toInt64.toUInt64 &&& Int64.toUInt64 63)).toInt64) (0 : Int64) = 0
                rw [e8, ea, j2]
                exact t2
              · show upd (σ2.2.2.1 7) (L2.1 8).toNatClampNeg ((L2.2.1 6 + (((σ2.2.2.1 7 (L2.1 8).toNatClampNeg).toInt64 &&& 4294967295) * 10)).toInt32) 0 = _
                rw [e8, upd_same, ea, j2]
                exact t1
            · omega
      have e38 : sN σ' 38 = sN σ 38 := by show σ'.2.2.2.2.1 38 = σ.2.2.2.2.1 38; rw [w.2.2.2]
      have r38 : σ'.2.2.1 38 = σ.2.2.1 38 := w.2.2.1 38 (by omega)
      refine Tm_suc (fun k => by rw [y_X10_readDigits__z38]) ?_
      refine Tm_ite (fun q => absurd q (by rw [a3, a5, u_le (by rw [u_n (by omega)]; omega) (by rw [u_n (by omega)]; omega), u_n (by omega), u_n (by omega)]; omega)) (fun _ => ?_)
      refine Tm_chk (u_in (by rw [a5, u_n (by omega)]; omega) (by omega)) ?_
      refine b3 k _ _ w a3 a5 a4 (by show 0 + _ = _; omega) (fun c1 => ?_)
      obtain ⟨i1, i2⟩ := dp.2 (by omega)
      refine ⟨i1, Or.inl ⟨rfl, ?_, fun k1 => ?_⟩⟩
      · show ((σ'.2.2.1 38 (L'.1 5).toNatClampNeg) - 48).toInt64 = _
        rw [a5, n_cl (by omega), r38, edg, (dg_1 dg dg10).1]
      · obtain ⟨a, z1, z2⟩ := i2 k1
        rw [if_pos c1] at z1
        have := dp.1
        exact ⟨a, z1, by omega, z2⟩
  refine Tm_suc (fun k => by rw [y_X10_readDigits__z38]) ?_
  refine b1 d0 0 0 _ σ (WF_r σ) h3 ?_ (by omega) rfl (by omega) ⟨Nat.le_refl _, fun _ => ⟨by omega, fun z => absurd z (by decide)⟩⟩
  show L.1 2 = _
  rw [h2]; rfl
end CVM
