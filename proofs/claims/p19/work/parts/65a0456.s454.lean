section JnS454
/-! The class: numbers are read. -/
section CVM
variable {σ σ' σ0 τ τ' : CS} {L : LV} {b : Bool} {T : Nat → Int32} {n q q' u al o v mk p sz szB nc0 sz0 mk0 a1 a2 m kk f e t : Nat} {y w : Int32} {l l' cs cs' : List Int32} {tb : List Ent} {α : Type} {S : α → Int32 → CS → Prop} {C : Prop} {E : En} {gl : Nat × (Nat → Nat → Prop)} {Vm : Nat → Prop} {bt : BT}
theorem dg_1 : ∀ a : Nat, a < 10 → (nI (48 + a) - 48 = nI a ∧ ((nI a).toInt64).toInt32 = nI a) := by decide +kernel
theorem dg_2 : ∀ a : Nat, a < 10 → ∀ r : Nat, r < 10 → (((nI a).toInt64 + (((nI r).toInt64 &&& 4294967295) * 10)).toInt32 = nI (a + 10 * r) ∧ nbCmp ((((nI a).toInt64 + (((nI r).toInt64 &&& 4294967295) * 10)).toUInt64 >>> ((32 : Int32).toInt64.toUInt64 &&& Int64.toUInt64 63)).toInt64) (0 : Int64) = 0) := by decide +kernel
/-- limbs so far, of so many digits -/
def DgP (c m : Nat) (σ : CS) : Prop := m ≤ c ∧ (c ≤ 2 → m ≤ 1 ∧ (m = 1 → ∃ a, a < (if c ≤ 1 then 10 else 100) ∧ σ.2.2.1 7 0 = nI a))
theorem c_digits {s0 d0 : Nat} (hn : sN σ 38 ≤ 2147483648) (h2 : L.1 2 = nI s0) (h3 : L.1 3 = nI (s0 + d0)) (he : s0 + d0 < 2147483648) (he2 : s0 + d0 ≤ sN σ 38) (hd : ∀ i, s0 ≤ i → i < s0 + d0 → ∃ a, a < 10 ∧ σ.2.2.1 38 i = nI (48 + a)) : Tm (fun k => y_X10_readDigits__z38 k 0 L σ) (fun r => WF σ r.2 ∧ r.2.1 404 = r.1 ∧ ∃ m, r.1 = nI m ∧ m ≤ 32 ∧ DgP d0 m r.2) := by
  have b1 : ∀ (m c k : Nat) (L' : LV) (σ' : CS), WF σ σ' → L'.1 3 = nI (s0 + d0) → L'.1 5 = nI (s0 + c) → c + m = d0 → L'.1 4 = nI k → k ≤ 32 → DgP c k σ' → Tm (fun k => y_X10_readDigits__z38 k 1 L' σ') (fun r => WF σ r.2 ∧ r.2.1 404 = r.1 ∧ ∃ m, r.1 = nI m ∧ m ≤ 32 ∧ DgP d0 m r.2) := by
    intro m
    induction m with
    | zero =>
      intro c k L' σ' w a3 a5 ac a4 k32 dp
      refine Tm_suc (fun k => by rw [y_X10_readDigits__z38]) ?_
      refine Tm_yes (by rw [a3, a5, u_le (by rw [u_n (by omega)]; omega) (by rw [u_n (by omega)]; omega), u_n (by omega), u_n (by omega)]; omega) ?_
      refine Tm_suc (fun k => by rw [y_X10_readDigits__z38]) ?_
      have cd : c = d0 := by omega
      refine Tm_some ⟨⟨fun j hj => ?_, w.2.1, w.2.2.1, w.2.2.2⟩, rfl, k, a4, k32, cd ▸ dp⟩
      show upd σ'.1 404 _ j = σ.1 j
      rw [upd_other hj]
      exact w.1 j hj
    | succ m ih =>
      intro c k L' σ' w a3 a5 ac a4 k32 dp
      have b5 : ∀ (L2 : LV) (σ2 : CS) (k2 : Nat), WF σ σ2 → L2.1 3 = nI (s0 + d0) → L2.1 5 = nI (s0 + c) → L2.1 4 = nI k2 → k2 ≤ 32 → DgP (c + 1) k2 σ2 → Tm (fun k => y_X10_readDigits__z38 k 5 L2 σ2) (fun r => WF σ r.2 ∧ r.2.1 404 = r.1 ∧ ∃ m, r.1 = nI m ∧ m ≤ 32 ∧ DgP d0 m r.2) := by
        intro L2 σ2 k2 w z3 z5 z4 k32 dp
        refine Tm_suc (fun k => by rw [y_X10_readDigits__z38]) ?_
        refine ih (c + 1) k2 _ _ w z3 ?_ (by omega) z4 k32 dp
        show L2.1 5 + 1 = _
        rw [z5, n_add1]; rfl
      obtain ⟨dg, dg10, edg⟩ := hd (s0 + c) (by omega) (by omega)
      have b3 : ∀ (d : Nat) (L2 : LV) (σ2 : CS), WF σ σ2 → L2.1 3 = nI (s0 + d0) → L2.1 5 = nI (s0 + c) → L2.1 4 = nI k → uN (L2.1 8) + d = k → (c ≤ 1 → k ≤ 1 ∧ ((d = k ∧ L2.2.1 6 = (nI dg).toInt64 ∧ (k = 1 → ∃ a, a < 10 ∧ c = 1 ∧ σ2.2.2.1 7 0 = nI a)) ∨ (d = 0 ∧ k = 1 ∧ c = 1 ∧ nbCmp (L2.2.1 6) (0 : Int64) = 0 ∧ ∃ a, a < 100 ∧ σ2.2.2.1 7 0 = nI a))) → Tm (fun k => y_X10_readDigits__z38 k 3 L2 σ2) (fun r => WF σ r.2 ∧ r.2.1 404 = r.1 ∧ ∃ m, r.1 = nI m ∧ m ≤ 32 ∧ DgP d0 m r.2) := by
        intro d
        induction d with
        | zero =>
          intro L2 σ2 w z3 z5 z4 z8 iv
          refine Tm_suc (fun k => by rw [y_X10_readDigits__z38]) ?_
          refine Tm_yes (by rw [z4, u_le (by rw [u_n (by omega)]; omega) (by omega), u_n (by omega)]; omega) ?_
          refine Tm_suc (fun k => by rw [y_X10_readDigits__z38]) ?_
          have mk1 := dp.1
          refine Tm_ite (fun c0 => b5 _ _ k w z3 z5 z4 k32 ⟨by omega, fun c2 => ?_⟩) (fun c0 => Tm_ite (fun c1 => ?_) (fun c1 => ?_))
          · obtain ⟨i1, i2⟩ := iv (by omega)
            refine ⟨i1, fun k1 => ?_⟩
            rcases i2 with ⟨j1, j2, j3⟩ | ⟨j1, j2, j3, j4, a, j5, j6⟩
            · omega
            · exact ⟨a, by rw [if_neg (by omega)]; exact j5, j6⟩
          · rw [z4, u_le (by decide) (by rw [u_n (by omega)]; omega), u_n (by omega)] at c1
            have c1' : 32 ≤ k := c1
            refine b5 _ _ k w z3 z5 z4 k32 ⟨by omega, fun c2 => ?_⟩
            have := (iv (by omega)).1
            omega
          · rw [z4, u_le (by decide) (by rw [u_n (by omega)]; omega), u_n (by omega)] at c1
            have c' : k < 32 := Nat.lt_of_not_le c1
            refine Tm_chk (u_in (by rw [z4, u_n (by omega)]; omega) (by decide)) ?_
            refine b5 _ _ (k + 1) (WF_t w (WF_A _ (by decide) _ _)) z3 z5 ?_ (by omega) ⟨by omega, fun c2 => ?_⟩
            · show L2.1 4 + 1 = _
              rw [z4, n_add1]
            · obtain ⟨i1, i2⟩ := iv (by omega)
              rcases i2 with ⟨j1, j2, j3⟩ | ⟨j1, j2, j3, j4, a, j5, j6⟩
              · refine ⟨by omega, fun _ => ⟨dg, ?_, ?_⟩⟩
                · split <;> omega
                · show upd (σ2.2.2.1 7) (L2.1 4).toNatClampNeg ((L2.2.1 6).toInt32) 0 = nI dg
                  rw [z4, n_cl (by omega), ← j1, upd_same, j2]
                  exact (dg_1 dg dg10).2
              · exact absurd j4 c0
        | succ d jh =>
          intro L2 σ2 w z3 z5 z4 z8 iv
          refine Tm_suc (fun k => by rw [y_X10_readDigits__z38]) ?_
          refine Tm_ite (fun q => absurd q (by rw [z4, u_le (by rw [u_n (by omega)]; omega) (by omega), u_n (by omega)]; omega)) (fun _ => ?_)
          refine Tm_chk (u_in (by omega) (by decide)) ?_
          refine Tm_chk (u_in (by omega) (by decide)) ?_
          refine jh _ _ (WF_t w (WF_A _ (by decide) _ _)) z3 z5 z4 ?_ (fun c1 => ?_)
          · show uN (L2.1 8 + 1) + d = _
            rw [u_inc (by omega)]; omega
          · obtain ⟨i1, i2⟩ := iv c1
            rcases i2 with ⟨j1, j2, j3⟩ | ⟨j1, j2⟩
            · obtain ⟨a, a10, ec, ea⟩ := j3 (by omega)
              have e8 : (L2.1 8).toNatClampNeg = 0 := by
                rw [u_of (L2.1 8), n_cl (by omega)]
                omega
              obtain ⟨t1, t2⟩ := dg_2 dg dg10 a a10
              refine ⟨i1, Or.inr ⟨by omega, by omega, ec, ?_, dg + 10 * a, by omega, ?_⟩⟩
              · show nbCmp ((((L2.2.1 6 + (((σ2.2.2.1 7 (L2.1 8).toNatClampNeg).toInt64 &&& 4294967295) * 10))).toUInt64 >>> ((32 : Int32).toInt64.toUInt64 &&& Int64.toUInt64 63)).toInt64) (0 : Int64) = 0
                rw [e8, ea, j2]
                exact t2
              · show upd (σ2.2.2.1 7) (L2.1 8).toNatClampNeg ((L2.2.1 6 + (((σ2.2.2.1 7 (L2.1 8).toNatClampNeg).toInt64 &&& 4294967295) * 10)).toInt32) 0 = _
                rw [e8, upd_same, ea, j2]
                exact t1
            · omega
      have e38 : sN σ' 38 = sN σ 38 := by show σ'.2.2.2.2.1 38 = σ.2.2.2.2.1 38; rw [w.2.2.2]
      have r38 : σ'.2.2.1 38 = σ.2.2.1 38 := w.2.2.1 38 (by omega)
      refine Tm_suc (fun k => by rw [y_X10_readDigits__z38]) ?_
      refine Tm_ite (fun q => absurd q (by rw [a3, a5, u_le (by rw [u_n (by omega)]; omega) (by rw [u_n (by omega)]; omega), u_n (by omega), u_n (by omega)]; omega)) (fun _ => ?_)
      refine Tm_chk (u_in (by rw [a5, u_n (by omega)]; omega) (by omega)) ?_
      refine b3 k _ _ w a3 a5 a4 (by show 0 + _ = _; omega) (fun c1 => ?_)
      obtain ⟨i1, i2⟩ := dp.2 (by omega)
      refine ⟨i1, Or.inl ⟨rfl, ?_, fun k1 => ?_⟩⟩
      · show ((σ'.2.2.1 38 (L'.1 5).toNatClampNeg) - 48).toInt64 = _
        rw [a5, n_cl (by omega), r38, edg, (dg_1 dg dg10).1]
      · obtain ⟨a, z1, z2⟩ := i2 k1
        rw [if_pos c1] at z1
        have := dp.1
        exact ⟨a, z1, by omega, z2⟩
  refine Tm_suc (fun k => by rw [y_X10_readDigits__z38]) ?_
  refine b1 d0 0 0 _ σ (WF_r σ) h3 ?_ (by omega) rfl (by omega) ⟨Nat.le_refl _, fun _ => ⟨by omega, fun z => absurd z (by decide)⟩⟩
  show L.1 2 = _
  rw [h2]; rfl
end CVM
end JnS454
section JnS455
/-! The class: numbers and strings are read. -/
section CVN
variable {σ σ' σ0 τ τ' : CS} {L : LV} {b : Bool} {T : Nat → Int32} {n q q' u al o v mk p sz szB nc0 sz0 mk0 a1 a2 m kk f e t : Nat} {y w : Int32} {l l' cs cs' : List Int32} {tb : List Ent} {α : Type} {S : α → Int32 → CS → Prop} {C : Prop} {E : En} {gl : Nat × (Nat → Nat → Prop)} {Vm : Nat → Prop} {bt : BT}
/-- rows of wholes may change -/
theorem QS_w (h : QS T n b u al tb o q v mk p sz σ) (w : WF σ σ') : QS T n b u al tb o q v mk p sz σ' ∧ XK b u tb.length sz mk σ σ' := by
  obtain ⟨h1, h2, h3, h4, ⟨h5, h5', h5''⟩, ⟨h6, h6'⟩, ⟨h7, h7'⟩, h8⟩ := h
  obtain ⟨f1, f2, f3, f4⟩ := w
  have pc := pR_c b
  have fc1 := fP_c b 1
  have fc2 := fP_c b 11
  have fc3 := fP_c b 19
  have sn : ∀ k, sN σ' k = sN σ k := fun k => by show σ'.2.2.2.2.1 k = _; rw [f4]
  have kd : ∀ c, sKd σ' c = sKd σ c := fun c => by show σ'.2.2.2.2.2.1.2.2.2.2 c = _; rw [f4]
  have cd : ∀ c i, cdr c σ' i = cdr c σ i := fun c i => by
    show σ'.2.2.1 (pR0 (sKd σ' c)) i = _
    rw [kd c]
    rcases pR0_c (sKd σ c) with z | z
    · rw [f3 _ (by omega)]
    · rw [f3 _ (by omega)]
  have cl := CdL_s h2 (f1 _ (by omega)) (kd b) ⟨sn 43, sn 51⟩
  have m3 := h3.2
  refine ⟨⟨LxQ_s h1 (fun j _ hj => f1 j (by omega)) (by rw [f2]; exact ⟨rfl, rfl⟩) (f3 38 (by decide)) (sn 38) (by rw [f4]), cl, ⟨by rw [f1 _ (by decide)]; exact h3.1, by rw [sn]; exact m3.1, by rw [sn]; exact m3.2⟩, TbR_s h4 (f1 _ (by omega)) (by rw [f4]) (by rw [f4]) (f3 _ (by omega)) (f3 _ (by omega)) (f3 _ (by omega)) (f3 _ (by omega)), ⟨by show σ'.2.2.2.2.2.1.2.2.2.1 = _; rw [f4]; exact h5, by rw [f1 _ (by decide)]; exact h5', ⟨by rw [f1 _ (by decide)]; exact h5''.1, by rw [f1 _ (by decide)]; exact h5''.2⟩⟩, ⟨by rw [f1 _ (by decide)]; exact h6, h6'⟩, ⟨by rw [f3 _ (by omega)]; exact h7, h7'⟩, by rw [f1 _ (by omega)]; exact h8⟩, ?_⟩
  refine ⟨⟨fun j hj => f1 j (by omega), fun j _ => by rw [f2]⟩, ⟨fun k hk => f3 k (by omega), fun k hk => sn k, fun k _ => by rw [f4]⟩, ⟨⟨by show σ'.2.2.2.2.2.1.1 = _; rw [f4], by show σ'.2.2.2.2.2.1.2.1 = _; rw [f4], by show σ'.2.2.2.2.2.1.2.2.1 = _; rw [f4], by show σ'.2.2.2.2.2.1.2.2.2.1 = _; rw [f4]⟩, fun c _ => kd c, by rw [f4]⟩, fun i _ => by rw [f3 _ (by omega)], fun i hi => ⟨⟨by rw [f4], by rw [f4]⟩, ⟨by rw [f3 _ (by omega)], by rw [f3 _ (by omega)]⟩, by rw [f3 _ (by omega)], by rw [f3 _ (by omega)]⟩, fun i _ => ⟨cd b i, cd (!b) i⟩, fun i _ => by rw [f3 41 (by decide)], cl.2, ⟨by rw [sn]; omega, by rw [sn]; exact m3.2⟩⟩
theorem Sy_w (h : Sy T n b u al σ0 nc0 sz0 mk0 a1 a2 tb o q v mk p szB cs τ) (w : WF τ τ') : Sy T n b u al σ0 nc0 sz0 mk0 a1 a2 tb o q v mk p szB cs τ' := by
  obtain ⟨q1, q2⟩ := QS_w h.1.1 w
  have ph := Ph_s (σ := τ) (σ' := τ') (by rw [w.2.2.2])
  have z := h.1.2.2.1
  exact Sy_c0 (n1 := 0) (n2 := 0) h q1 q2 ⟨by omega, by omega⟩ h.1.2.2.2.1 h.1.2.2.2.2.2
theorem digE_all (T : Nat → Int32) (n : Nat) : ∀ f p i : Nat, p ≤ i → i < digE T n f p → i < n ∧ isD (T i)
  | 0, p, i, h1, h2 => absurd h2 (by show ¬ i < p; omega)
  | f + 1, p, i, h1, h2 => by
    rw [digE_step] at h2
    by_cases c : isD (rB T n p)
    · rw [if_pos c] at h2
      by_cases e : i = p
      · have pl := isD_lt c
        rw [e]
        rw [rB_in pl] at c
        exact ⟨pl, c⟩
      · exact digE_all T n f (p + 1) i (by omega) h2
    · rw [if_neg c] at h2
      omega
theorem tk_dg (hq : q ≤ n) (h : tkK T n q = 27) : q < tkE T n q ∧ tkE T n q ≤ n ∧ ∀ i, q ≤ i → i < tkE T n q → isD (T i) := by
  have hc : q < n ∧ (tokM 0 T n q).1 = 2 := by
    rcases tk_cases T n q hq with ⟨_, a, b⟩ | ⟨hl, ⟨a, b⟩ | ⟨a, b⟩ | ⟨a, b⟩ | ⟨a, b1, b2, b3⟩ | ⟨a, b1, b2, b3⟩ | ⟨a, b⟩⟩
    · omega
    · omega
    · exact ⟨hl, a⟩
    · omega
    · omega
    · omega
    · omega
  obtain ⟨hl, a⟩ := hc
  have n0 : ¬ q = n := by omega
  have eE : tkE T n q = (tokM 0 T n q).2.2 := rfl
  unfold tokM at a eE
  rw [if_neg n0] at a eE
  by_cases c : isL (rB T n q)
  · exfalso
    rw [if_pos c] at a
    have a' : (if nameE T n (n + 1) q - q ≤ 16 then (if wordI (seg T q (nameE T n (n + 1) q)) = -1 then (1 : Int32) else 5) else 6) = 2 := a
    split at a'
    · split at a' <;> exact absurd a' (by decide)
    · exact absurd a' (by decide)
  · rw [if_neg c] at a eE
    by_cases c2 : isD (rB T n q)
    · rw [if_pos c2] at eE
      have eE' : tkE T n q = digE T n (n + 1) q := eE
      have e1 : digE T n (n + 1) q = digE T n n (q + 1) := by rw [digE_step, if_pos c2]
      have g1 := digE_ge T n n (q + 1)
      have g2 := digE_le T n (n + 1) q hq
      rw [eE']
      exact ⟨by omega, g2, fun i h1 h2 => (digE_all T n (n + 1) q i h1 h2).2⟩
    · exfalso
      rw [if_neg c2] at a
      by_cases c3 : rB T n q = 34
      · rw [if_pos c3] at a
        have a' : (if (strE T n (n + 1) (q + 1) < n ∧ T (strE T n (n + 1) (q + 1)) = 34) ∧ strE T n (n + 1) (q + 1) - q - 1 ≤ 100 then (3 : Int32) else 6) = 2 := a
        split at a' <;> exact absurd a' (by decide)
      · rw [if_neg c3] at a
        have a' : (if signF (rB T n q) (rB T n (q + 1)) = 0 then (6 : Int32) else 4) = 2 := a
        split at a' <;> exact absurd a' (by decide)
theorem tk_st (hq : q ≤ n) (h : tkK T n q = 28) : q + 2 ≤ tkE T n q ∧ tkE T n q ≤ n ∧ tkE T n q - 2 - q ≤ 100 := by
  have hc : q < n ∧ (tokM 0 T n q).1 = 3 := by
    rcases tk_cases T n q hq with ⟨_, a, b⟩ | ⟨hl, ⟨a, b⟩ | ⟨a, b⟩ | ⟨a, b⟩ | ⟨a, b1, b2, b3⟩ | ⟨a, b1, b2, b3⟩ | ⟨a, b⟩⟩
    · omega
    · omega
    · omega
    · exact ⟨hl, a⟩
    · omega
    · omega
    · omega
  obtain ⟨hl, a⟩ := hc
  have n0 : ¬ q = n := by omega
  have eE : tkE T n q = (tokM 0 T n q).2.2 := rfl
  unfold tokM at a eE
  rw [if_neg n0] at a eE
  by_cases c : isL (rB T n q)
  · exfalso
    rw [if_pos c] at a
    have a' : (if nameE T n (n + 1) q - q ≤ 16 then (if wordI (seg T q (nameE T n (n + 1) q)) = -1 then (1 : Int32) else 5) else 6) = 3 := a
    split at a'
    · split at a' <;> exact absurd a' (by decide)
    · exact absurd a' (by decide)
  · rw [if_neg c] at a eE
    by_cases c2 : isD (rB T n q)
    · exfalso
      rw [if_pos c2] at a
      have a' : (if digE T n (n + 1) q - q ≤ 60 then (2 : Int32) else 6) = 3 := a
      split at a' <;> exact absurd a' (by decide)
    · rw [if_neg c2] at a eE
      by_cases c3 : rB T n q = 34
      · rw [if_pos c3] at a eE
        have a' : (if (strE T n (n + 1) (q + 1) < n ∧ T (strE T n (n + 1) (q + 1)) = 34) ∧ strE T n (n + 1) (q + 1) - q - 1 ≤ 100 then (3 : Int32) else 6) = 3 := a
        by_cases c4 : (strE T n (n + 1) (q + 1) < n ∧ T (strE T n (n + 1) (q + 1)) = 34) ∧ strE T n (n + 1) (q + 1) - q - 1 ≤ 100
        · have eE' : tkE T n q = strE T n (n + 1) (q + 1) + (if strE T n (n + 1) (q + 1) < n ∧ T (strE T n (n + 1) (q + 1)) = 34 then 1 else 0) := eE
          rw [if_pos c4.1] at eE'
          have g1 := strE_ge T n (n + 1) (q + 1)
          rw [eE']
          have := c4.1.1
          have := c4.2
          exact ⟨by omega, by omega, by omega⟩
        · rw [if_neg c4] at a'
          exact absurd a' (by decide)
      · exfalso
        rw [if_neg c3] at a
        have a' : (if signF (rB T n q) (rB T n (q + 1)) = 0 then (6 : Int32) else 4) = 3 := a
        split at a' <;> exact absurd a' (by decide)
/-- a digit's byte, as the tape has it -/
theorem dg_row {R : Nat → Int32} (h : sameT T R n) {i : Nat} (hi : i < n) (d : isD (T i)) : ∃ a, a < 10 ∧ R i = nI (48 + a) := by
  have e := h.1 i hi
  have fb := h.2.1 i (by omega)
  have d1 : 48 ≤ (T i).toInt ∧ (T i).toInt ≤ 57 := by
    obtain ⟨z1, z2⟩ := d
    rw [i_le] at z1 z2
    exact ⟨z1, z2⟩
  have e2 : R i = T i := (u8_eq fb (by omega) (by omega)).1 e.symm
  refine ⟨(T i).toInt.toNat - 48, by omega, ?_⟩
  rw [e2, i_eq, n_int (by omega)]
  omega
theorem hd_2 : ∀ m : Nat, m < 33 → uN (((((2 : Int32) ||| ((0 : Int32) <<< ((3 : Int32) &&& 31))) ||| (nI m <<< ((4 : Int32) &&& 31))) ||| ((1 + nI m) <<< ((16 : Int32) &&& 31))) ||| ((0 : Int32) <<< ((26 : Int32) &&& 31))) = 2 + 16 * m + 65536 * (1 + m) := by decide +kernel
theorem hd_4 : ∀ m : Nat, m < 101 → ((nI m + 3) >>> ((2 : Int32) &&& 31) = nI ((m + 3) / 4) ∧ nI m >>> ((2 : Int32) &&& 31) = nI (m / 4) ∧ uN (((((4 : Int32) ||| ((0 : Int32) <<< ((3 : Int32) &&& 31))) ||| (nI m <<< ((4 : Int32) &&& 31))) ||| ((1 + nI ((m + 3) / 4)) <<< ((16 : Int32) &&& 31))) ||| ((0 : Int32) <<< ((26 : Int32) &&& 31))) = 4 + 16 * m + 65536 * (1 + (m + 3) / 4)) := by decide +kernel
theorem sm_lit (x : Int32) : LitG ((-1610612736) ||| (x &&& 268435455)) := by
  have e2 : uN (x &&& 268435455) = uN x % 268435456 := by
    rw [u_and]
    exact Nat.and_two_pow_sub_one_eq_mod (uN x) 28
  have e1 : uN ((x &&& 268435455) ||| (-1610612736)) = uN (x &&& 268435455) + uN (-1610612736 : Int32) := u_orA (k := 28) (a := 10) (by rw [e2]; omega) (by decide)
  have e3 : uN (-1610612736 : Int32) = 2684354560 := by decide
  rw [Int32.or_comm]
  left
  omega
theorem by_lit (x : Int32) : LitG ((-1073741824) ||| (x &&& 255)) := by
  have e2 : uN (x &&& 255) = uN x % 256 := by
    rw [u_and]
    exact Nat.and_two_pow_sub_one_eq_mod (uN x) 8
  have e1 : uN ((x &&& 255) ||| (-1073741824)) = uN (x &&& 255) + uN (-1073741824 : Int32) := u_orA (k := 8) (a := 12582912) (by rw [e2]; omega) (by decide)
  have e3 : uN (-1073741824 : Int32) = 3221225472 := by decide
  rw [Int32.or_comm]
  left
  omega
theorem c_limb0 {k : Nat} (h : σ.1 404 = nI k) (hk : k ≤ 32) (h1 : L.1 1 = 0) : Tm (fun k => y_X10_resultLimb k 0 L σ) (fun r => r.2 = σ ∧ (1 ≤ k → r.1 = σ.2.2.1 7 0)) := by
  refine Tm_suc (fun k => by rw [y_X10_resultLimb]) ?_
  rw [h1, h]
  refine Tm_no (by decide) ?_
  by_cases k0 : k = 0
  · refine Tm_yes (by rw [k0]; decide) ?_
    refine Tm_suc (fun k => by rw [y_X10_resultLimb]) ?_
    refine Tm_suc (fun k => by rw [y_X10_resultLimb]) ?_
    exact Tm_some ⟨rfl, fun z => by omega⟩
  · refine Tm_no (fun z => ?_) ?_
    · rw [u_le (by rw [u_n (by omega)]; omega) (by decide), u_n (by omega)] at z
      have z' : k ≤ 0 := z
      omega
    refine Tm_chk (u_in (by decide) (by decide)) ?_
    refine Tm_suc (fun k => by rw [y_X10_resultLimb]) ?_
    exact Tm_some ⟨rfl, fun _ => rfl⟩
end CVN
end JnS455
section JnS456
/-! The class: numbers and strings are read. -/
section CVO
variable {σ σ' σ0 τ τ' : CS} {L : LV} {b : Bool} {T : Nat → Int32} {n q q' u al o v mk p sz szB nc0 sz0 mk0 a1 a2 m kk f e t : Nat} {y w : Int32} {l l' cs cs' : List Int32} {tb : List Ent} {α : Type} {S : α → Int32 → CS → Prop} {C : Prop} {E : En} {gl : Nat × (Nat → Nat → Prop)} {Vm : Nat → Prop} {bt : BT}
theorem hd_2x : ∀ m : Nat, m < 33 → ((2 + 16 * m + 65536 * (1 + m)) / 16 % 4096 = m ∧ (2 + 16 * m + 65536 * (1 + m)) / 65536 % 1024 = 1 + m ∧ (2 + 16 * m + 65536 * (1 + m)) / 67108864 = 0 ∧ (2 + 16 * m + 65536 * (1 + m)) % 8 = 2) := by decide +kernel
theorem hd_4x : ∀ m : Nat, m < 101 → ((4 + 16 * m + 65536 * (1 + (m + 3) / 4)) / 16 % 4096 = m ∧ (4 + 16 * m + 65536 * (1 + (m + 3) / 4)) / 65536 % 1024 = 1 + (m + 3) / 4 ∧ (4 + 16 * m + 65536 * (1 + (m + 3) / 4)) / 67108864 = 0 ∧ (4 + 16 * m + 65536 * (1 + (m + 3) / 4)) % 8 = 4) := by decide +kernel
theorem c_rl (h : uN (L.1 1) < 72) : Tm (fun k => y_X10_resultLimb k 0 L σ) (Qs σ) := by
  have b2 : ∀ L' : LV, Tm (fun k => y_X10_resultLimb k 2 L' σ) (Qs σ) := by
    intro L'
    refine Tm_suc (fun k => by rw [y_X10_resultLimb]) ?_
    exact Tm_some rfl
  have b1 : ∀ L' : LV, Tm (fun k => y_X10_resultLimb k 1 L' σ) (Qs σ) := by
    intro L'
    refine Tm_suc (fun k => by rw [y_X10_resultLimb]) ?_
    exact b2 _
  refine Tm_suc (fun k => by rw [y_X10_resultLimb]) ?_
  refine Tm_ite (fun _ => b1 _) (fun c => Tm_ite (fun _ => b1 _) (fun c2 => ?_))
  refine Tm_chk (u_in h (by decide)) ?_
  exact b2 _
theorem c_numQ {bt1 : BT} {x : Fl RT} (h : QS T n b u al tb o q v mk p sz σ) (bd : BdX n o q v mk p sz tb.length) (hk : tkK T n q = 27) (hG : gT T n q (fun q1 => some (Sum.inr (q1, v, 0, bt.1, bt1, []))) = some x) : Tm (fun k => f_X5_number k 0 L σ) (QPo b u tb.length sz mk x (fun r _ τ => XN T n b u al gl Vm tb o mk p sz q v r τ) σ 0 0) := by
  have s0 := Sy_0 h
  have go := tk_go h
  have g1 := go.2.2 (by omega)
  have b22 := bd.2.1
  have n10 := bd.1
  have lx := h.1
  obtain ⟨t1, t2, t3⟩ := tk_dg lx.2.2.2.1 hk
  have tn := (tkN_b T n q lx.2.2.2.1).2.2.1
  have t60 := tk_27 hk
  have cn := lx.1
  -- at the end
  have b3 : ∀ (L' : LV) (τ : CS) (a1 a2 : Nat) (cs : List Int32), Sy T n b u al σ tb.length sz mk a1 a2 tb o q v mk p sz cs τ → Sgm u p gl Vm 1 cs → 2 * cs.length ≤ 3 * (tkE T n q - q) + 1 → Tm (fun k => f_X5_number k 3 L' τ) (QPo b u tb.length sz mk x (fun r _ τ => XN T n b u al gl Vm tb o mk p sz q v r τ) σ a1 a2) := by
    intro L' τ a1 a2 cs s1 sg ln
    refine Tm_suc (fun k => by rw [f_X5_number]) ?_
    refine st_advY s1 (gT_any hG) (fun τ1 r1 er c1 s2 => ?_)
    rw [er, ← Option.some.inj c1]
    refine Tm_some (Qfin s2.1 ⟨_, s2.1.1, s2.2, sg, ?_, g1, Nat.le_refl _, rfl⟩)
    show 2 * cs.length ≤ 3 * (tkN T n q - q) + 1
    omega
  have b1 : ∀ (L' : LV) (τ : CS), Sy T n b u al σ tb.length sz mk 0 0 tb o q v mk p sz [] τ → Tm (fun k => f_X5_number k 1 L' τ) (QPo b u tb.length sz mk x (fun r _ τ => XN T n b u al gl Vm tb o mk p sz q v r τ) σ 0 0) := by
    intro L' τ s1
    refine Tm_suc (fun k => by rw [f_X5_number]) ?_
    refine Tm_oP (Sy_pp s1) ?_
    refine st_emit (op := 33) s1 rfl rfl (by show sz + 0 + 1 ≤ _; omega) (fun τ2 m1 m2 s2 => ?_)
    refine Tm_oP (Sy_pp s2) ?_
    refine Tm_op (P := fun r => r = ((-1610612736) ||| (L'.1 2 &&& 268435455), τ2)) (Tm_suc (fun k => by rw [y_X10_small]; rfl) (Tm_some rfl)) (fun r4 e4 => ?_)
    rw [e4]
    have s2' : Sy T n b u al σ tb.length sz mk (0 + m1) (0 + m2) tb o q v mk p sz [em 33 0] τ2 := s2
    refine st_word s2' rfl (by show sz + 1 + 1 ≤ _; omega) (fun τ3 m3 m4 s3 => ?_)
    exact b3 _ τ3 _ _ _ s3 (Sgm_1 (by show 1 ≤ 2; omega) (by show 1 ≤ 2; omega) (It_li (sm_lit _))) (by show 2 * 2 ≤ _; omega)
  have b2 : ∀ (L' : LV) (τ : CS) (k : Nat), 1 ≤ k → k ≤ 32 → L'.1 1 = nI k → τ.1 404 = nI k → 2 * (k + 2) ≤ 3 * (tkE T n q - q) + 1 → Sy T n b u al σ tb.length sz mk 0 0 tb o q v mk p sz [] τ → Tm (fun k => f_X5_number k 2 L' τ) (QPo b u tb.length sz mk x (fun r _ τ => XN T n b u al gl Vm tb o mk p sz q v r τ) σ 0 0) := by
    intro L' τ k k1 k32 l1 e404 ln s1
    refine Tm_suc (fun k => by rw [f_X5_number]) ?_
    refine Tm_oP (Sy_pp s1) ?_
    refine st_emit (op := 34) s1 rfl rfl (by show sz + 0 + 1 ≤ _; omega) (fun τ2 m1 m2 s2 => ?_)
    refine Tm_oP (Sy_pp s2) ?_
    refine Tm_op (P := fun r => r = (((((((2 : Int32) ||| ((0 : Int32) <<< ((3 : Int32) &&& 31))) ||| (L'.1 1 <<< ((4 : Int32) &&& 31))) ||| ((1 + L'.1 1) <<< ((16 : Int32) &&& 31))) ||| ((0 : Int32) <<< ((26 : Int32) &&& 31)))), τ2)) (Tm_suc (fun k => by rw [y_X1_header]; rfl) (Tm_some rfl)) (fun r4 e4 => ?_)
    rw [e4]
    have hu := hd_2 k (by omega)
    obtain ⟨x1, x2, x3, x4⟩ := hd_2x k (by omega)
    rw [l1]
    generalize (((((2 : Int32) ||| ((0 : Int32) <<< ((3 : Int32) &&& 31))) ||| (nI k <<< ((4 : Int32) &&& 31))) ||| ((1 + nI k) <<< ((16 : Int32) &&& 31))) ||| ((0 : Int32) <<< ((26 : Int32) &&& 31))) = hd0 at *
    have s2' : Sy T n b u al σ tb.length sz mk (0 + m1) (0 + m2) tb o q v mk p sz [em 34 (nI (k + 1))] τ2 := by
      have z : L'.1 1 + 1 = nI (k + 1) := by rw [l1, n_add1]
      rw [← z]; exact s2
    refine st_word s2' rfl (by show sz + 1 + 1 ≤ _; omega) (fun τ3 m3 m4 s3 => ?_)
    have b4 : ∀ (d i : Nat) (L2 : LV) (τ : CS) (a1 a2 : Nat) (bd0 : List Int32), i + d = k → bd0.length = i → L2.1 1 = nI k → L2.1 3 = nI i → Sy T n b u al σ tb.length sz mk a1 a2 tb o q v mk p sz (em 34 (nI (k + 1)) :: hd0 :: bd0) τ → Tm (fun k => f_X5_number k 4 L2 τ) (QPo b u tb.length sz mk x (fun r _ τ => XN T n b u al gl Vm tb o mk p sz q v r τ) σ a1 a2) := by
      intro d
      induction d with
      | zero =>
        intro i L2 τ a1 a2 bd0 hi lb l1 l3 s4
        refine Tm_suc (fun k => by rw [f_X5_number]) ?_
        refine Tm_yes (by rw [l1, l3, n_le (by omega) (by omega)]; omega) ?_
        have it : Itc u p gl Vm 0 1 (em 34 (nI (k + 1)) :: hd0 :: bd0) := It_lc (n := k + 1) (by omega) (by omega) (u_n (by omega)) (by omega) (by unfold hdW; rw [hu, if_neg (by omega)]; unfold hdL; omega) (Or.inl (by unfold hdK; rw [hu]; exact x4)) ⟨by unfold hdT; rw [hu]; omega, by unfold hdS; rw [hu]; omega⟩ (fun _ => by unfold hdL; rw [hu, x1]; exact ⟨by omega, by omega⟩)
        refine b3 _ τ _ _ _ s4 (Sgm_1 ?_ ?_ it) ?_
        · show 1 ≤ bd0.length + 1 + 1; omega
        · show 1 ≤ bd0.length + 1 + 1; omega
        · show 2 * (bd0.length + 1 + 1) ≤ _; omega
      | succ d ih =>
        intro i L2 τ a1 a2 bd0 hi lb l1 l3 s4
        refine Tm_suc (fun k => by rw [f_X5_number]) ?_
        refine Tm_no (by rw [l1, l3, n_le (by omega) (by omega)]; omega) ?_
        refine Tm_oP (Sy_pp s4) ?_
        have t4 : Tm (fun k => y_X10_resultLimb k 0 (lI lZ 1 (L2.1 3)) τ) (Qs τ) := c_rl (by show uN (L2.1 3) < 72; rw [l3, u_n (by omega)]; omega)
        refine Tm_op t4 (fun r3 e3 => ?_)
        have e3' : r3.2 = τ := e3
        rw [e3']
        refine st_word s4 rfl (by show sz + (bd0.length + 1 + 1) + 1 ≤ _; omega) (fun τ5 m5 m6 s5 => ?_)
        refine ih (i + 1) _ τ5 _ _ (bd0 ++ [r3.1]) (by omega) (by rw [List.length_append, lb]; rfl) l1 ?_ s5
        show L2.1 3 + 1 = _
        rw [l3, n_add1]
    exact b4 k 0 _ τ3 _ _ [] (by omega) rfl l1 rfl s3
  refine Tm_suc (fun k => by rw [f_X5_number]) ?_
  have dgs : ∀ i, q ≤ i → i < q + (tkE T n q - q) → ∃ a, a < 10 ∧ σ.2.2.1 38 i = nI (48 + a) := fun i i1 i2 => dg_row lx.2.1 (by omega) (t3 i i1 (by omega))
  have td : Tm (fun k => y_X10_readDigits__z38 k 0 (lI (lI lZ 2 (σ.1 3703)) 3 (σ.1 3704)) σ) _ := c_digits (s0 := q) (d0 := tkE T n q - q) (by have := cn.2.2.2.1; omega) (by show σ.1 3703 = _; exact lx.2.2.2.2.2.2.1) (by show σ.1 3704 = _; rw [lx.2.2.2.2.2.2.2.1]; exact congrArg nI (by omega)) (by omega) (by have := cn.2.2.1; omega) dgs
  refine Tm_op td (fun r1 z1 => ?_)
  obtain ⟨w1, w2, k, w3, k32, dp⟩ := z1
  have s1 : Sy T n b u al σ tb.length sz mk 0 0 tb o q v mk p sz [] r1.2 := Sy_w s0 w1
  have t0 : Tm (fun k => y_X10_resultLimb k 0 (lI lZ 1 0) r1.2) _ := c_limb0 (k := k) (by rw [w2, w3]) k32 rfl
  refine Tm_op t0 (fun r2 z2 => ?_)
  obtain ⟨e2, f2⟩ := z2
  rw [e2, w3]
  by_cases k0 : k = 0
  · refine Tm_yes (by rw [k0]; rfl) ?_
    exact b1 _ _ s1
  refine Tm_no (by rw [n_eq0 (by omega)]; exact k0) ?_
  have lim : ¬ (k = 1 ∧ 0 ≤ uN r2.1 ∧ uN r2.1 < 134217728) → 2 * (k + 2) ≤ 3 * (tkE T n q - q) + 1 := by
    intro hz
    obtain ⟨d1, d2⟩ := dp
    rcases Nat.lt_or_ge 2 (tkE T n q - q) with z | z
    · omega
    · obtain ⟨d3, d4⟩ := d2 z
      have k1 : k = 1 := Nat.le_antisymm d3 (Nat.pos_of_ne_zero k0)
      obtain ⟨a, a1, a2⟩ := d4 k1
      exfalso
      apply hz
      rw [f2 (by omega), a2]
      have a100 : a < 100 := by
        split at a1 <;> omega
      rw [u_n (by omega)]
      exact ⟨k1, by omega, by omega⟩
  have e404 : r1.2.1 404 = nI k := by rw [w2, w3]
  by_cases k1 : k = 1
  · refine Tm_yes (by rw [k1]; rfl) ?_
    refine Tm_ite (fun c1 => ?_) (fun c1 => Tm_ite (fun c2 => ?_) (fun c2 => ?_))
    · rw [u_neg] at c1
      exact b2 _ _ k (by omega) k32 rfl e404 (lim (fun z => by omega)) s1
    · rw [u_neg] at c1
      rw [u_le (by decide) (by omega)] at c2
      have c2' : 134217728 ≤ uN r2.1 := c2
      exact b2 _ _ k (by omega) k32 rfl e404 (lim (fun z => by omega)) s1
    · exact b1 _ _ s1
  · refine Tm_no (fun z => k1 ?_) ?_
    · have z' : nI k = nI 1 := z
      rw [n_eq (by omega) (by decide)] at z'
      exact z'
    · exact b2 _ _ k (by omega) k32 rfl e404 (lim (fun z => by omega)) s1
theorem c_strQ {bt1 : BT} {x : Fl RT} (h : QS T n b u al tb o q v mk p sz σ) (bd : BdX n o q v mk p sz tb.length) (hk : tkK T n q = 28) (hG : gT T n q (fun q1 => some (Sum.inr (q1, v, 0, bt.1, bt1, []))) = some x) : Tm (fun k => f_X5_string k 0 L σ) (QPo b u tb.length sz mk x (fun r _ τ => XN T n b u al gl Vm tb o mk p sz q v r τ) σ 0 0) := by
  have s0 := Sy_0 h
  have go := tk_go h
  have g1 := go.2.2 (by omega)
  have b22 := bd.2.1
  have n10 := bd.1
  have lx := h.1
  obtain ⟨t1, t2, t3⟩ := tk_st lx.2.2.2.1 hk
  have tn := (tkN_b T n q lx.2.2.2.1).2.2.1
  have cn := lx.1
  -- at the end
  have b5 : ∀ (L' : LV) (τ : CS) (a1 a2 : Nat) (cs : List Int32), Sy T n b u al σ tb.length sz mk a1 a2 tb o q v mk p sz cs τ → Sgm u p gl Vm 1 cs → 2 * cs.length ≤ 3 * (tkE T n q - q) + 1 → Tm (fun k => f_X5_string k 5 L' τ) (QPo b u tb.length sz mk x (fun r _ τ => XN T n b u al gl Vm tb o mk p sz q v r τ) σ a1 a2) := by
    intro L' τ a1 a2 cs s1 sg ln
    refine Tm_suc (fun k => by rw [f_X5_string]) ?_
    refine st_advY s1 (gT_any hG) (fun τ1 r1 er c1 s2 => ?_)
    rw [er, ← Option.some.inj c1]
    refine Tm_some (Qfin s2.1 ⟨_, s2.1.1, s2.2, sg, ?_, g1, Nat.le_refl _, rfl⟩)
    show 2 * cs.length ≤ 3 * (tkN T n q - q) + 1
    omega
  have b3 : ∀ (L' : LV) (τ : CS) (a1 a2 : Nat), L'.2.2.1 101 = b → LitG (L'.1 100) → Sy T n b u al σ tb.length sz mk a1 a2 tb o q v mk p sz [em 33 0] τ → Tm (fun k => f_X5_string k 3 L' τ) (QPo b u tb.length sz mk x (fun r _ τ => XN T n b u al gl Vm tb o mk p sz q v r τ) σ a1 a2) := by
    intro L' τ a1 a2 lb lg s2
    refine Tm_suc (fun k => by rw [f_X5_string]) ?_
    refine st_word s2 lb (by show sz + 1 + 1 ≤ _; omega) (fun τ3 m3 m4 s3 => ?_)
    exact b5 _ τ3 _ _ _ s3 (Sgm_1 (by show 1 ≤ 2; omega) (by show 1 ≤ 2; omega) (It_li lg)) (by show 2 * 2 ≤ _; omega)
  have e3 : σ.1 3703 = nI q := lx.2.2.2.2.2.2.1
  have e4 : σ.1 3704 = nI (tkE T n q) := lx.2.2.2.2.2.2.2.1
  have el : σ.1 3704 - 1 - (σ.1 3703 + 1) = nI (tkE T n q - 2 - q) := by
    rw [e3, e4, n_add1, show (1 : Int32) = nI 1 from rfl, n_sub (by omega) (by omega), n_sub (by omega) (by omega)]
    exact congrArg nI (by omega)
  have e1 : σ.1 3703 + 1 = nI (q + 1) := by rw [e3, n_add1]
  generalize hm : tkE T n q - 2 - q = m at *
  refine Tm_suc (fun k => by rw [f_X5_string]) ?_
  rw [el, e1]
  by_cases c1 : 1 < m
  · refine Tm_yes (by show nI 1 < nI m; rw [n_lt (by decide) (by omega)]; exact c1) ?_
    obtain ⟨hw, hw2, hu⟩ := hd_4 m (by omega)
    obtain ⟨x1, x2, x3, x4⟩ := hd_4x m (by omega)
    refine Tm_suc (fun k => by rw [f_X5_string]) ?_
    refine Tm_oP (Sy_pp s0) ?_
    refine st_emit (op := 34) s0 rfl rfl (by show sz + 0 + 1 ≤ _; omega) (fun τ2 m1 m2 s2 => ?_)
    refine Tm_oP (Sy_pp s2) ?_
    refine Tm_op (P := fun r => r = (((((((4 : Int32) ||| ((0 : Int32) <<< ((3 : Int32) &&& 31))) ||| (nI m <<< ((4 : Int32) &&& 31))) ||| ((1 + ((nI m + 3) >>> ((2 : Int32) &&& 31))) <<< ((16 : Int32) &&& 31))) ||| ((0 : Int32) <<< ((26 : Int32) &&& 31)))), τ2)) (Tm_suc (fun k => by rw [y_X1_header]; rfl) (Tm_some rfl)) (fun r4 e4' => ?_)
    rw [e4', hw]
    generalize (((((4 : Int32) ||| ((0 : Int32) <<< ((3 : Int32) &&& 31))) ||| (nI m <<< ((4 : Int32) &&& 31))) ||| ((1 + nI ((m + 3) / 4)) <<< ((16 : Int32) &&& 31))) ||| ((0 : Int32) <<< ((26 : Int32) &&& 31))) = hd0 at *
    have s2' : Sy T n b u al σ tb.length sz mk (0 + m1) (0 + m2) tb o q v mk p sz [em 34 (nI ((m + 3) / 4 + 1))] τ2 := by
      have z : (nI m + 3) >>> ((2 : Int32) &&& 31) + 1 = nI ((m + 3) / 4 + 1) := by rw [hw, n_add1]
      rw [← z]; exact s2
    refine st_word s2' rfl (by show sz + 1 + 1 ≤ _; omega) (fun τ3 m3 m4 s3 => ?_)
    -- bytes are laid into the words
    have b7 : ∀ (d i : Nat) (L2 : LV) (τ : CS) (a1 a2 : Nat) (bd0 : List Int32), i + d = m → bd0.length = (m + 3) / 4 → L2.1 1 = nI (q + 1) → L2.1 2 = nI m → L2.1 4 = nI (sz + 1) → L2.1 5 = nI i → Sy T n b u al σ tb.length sz mk a1 a2 tb o q v mk p sz (em 34 (nI ((m + 3) / 4 + 1)) :: hd0 :: bd0) τ → Tm (fun k => f_X5_string k 7 L2 τ) (QPo b u tb.length sz mk x (fun r _ τ => XN T n b u al gl Vm tb o mk p sz q v r τ) σ a1 a2) := by
      intro d
      induction d with
      | zero =>
        intro i L2 τ a1 a2 bd0 hi lb l1 l2 l4 l5 s4
        refine Tm_suc (fun k => by rw [f_X5_string]) ?_
        refine Tm_yes (by rw [l2, l5, n_le (by omega) (by omega)]; omega) ?_
        have it : Itc u p gl Vm 0 1 (em 34 (nI ((m + 3) / 4 + 1)) :: hd0 :: bd0) := It_lc (n := (m + 3) / 4 + 1) (by omega) (by omega) (u_n (by omega)) (by omega) (by unfold hdW; rw [hu, if_pos x4]; unfold hdL; rw [x1]; omega) (Or.inr (by unfold hdK; rw [hu]; exact x4)) ⟨by unfold hdT; rw [hu]; omega, by unfold hdS; rw [hu]; omega⟩ (fun z => by unfold hdK at z; rw [hu, x4] at z; exact absurd z (by decide))
        refine b5 _ τ _ _ _ s4 (Sgm_1 ?_ ?_ it) ?_
        · show 1 ≤ bd0.length + 1 + 1; omega
        · show 1 ≤ bd0.length + 1 + 1; omega
        · show 2 * (bd0.length + 1 + 1) ≤ _; omega
      | succ d ih =>
        intro i L2 τ a1 a2 bd0 hi lb l1 l2 l4 l5 s4
        refine Tm_suc (fun k => by rw [f_X5_string]) ?_
        refine Tm_no (by rw [l2, l5, n_le (by omega) (by omega)]; omega) ?_
        refine Tm_oP (Sy_pp s4) ?_
        have hs := (hd_4 i (by omega)).2.1
        have ix : L2.1 4 + 1 + L2.1 5 >>> ((2 : Int32) &&& 31) = nI (sz + (2 + i / 4)) := by
          rw [l4, l5, hs, n_add1, n_add (by omega)]
          exact congrArg nI (by omega)
        have lc : (em 34 (nI ((m + 3) / 4 + 1)) :: hd0 :: bd0).length = bd0.length + 1 + 1 := rfl
        have cl := s4.1.1.2.1.2.1
        rw [lc] at cl
        have cb := cdn_b s4.1.1
        have i38 : L2.1 1 + L2.1 5 = nI (q + 1 + i) := by rw [l1, l5, n_add (by omega)]
        have tl := s4.1.1.1.1.2.2.1
        have tl2 := s4.1.1.1.1.2.2.2.1
        have iin : ¬ (nI (sz + (2 + i / 4)) < 0 ∨ cdn b τ ≤ (nI (sz + (2 + i / 4))).toNatClampNeg) := u_in (by rw [u_n (by omega)]; omega) (by omega)
        rw [ix, i38]
        refine Tm_chk iin ?_
        refine Tm_chk (u_in (by rw [u_n (by omega)]; omega) (by omega)) ?_
        refine Tm_chk iin ?_
        rw [n_cl (p := sz + (2 + i / 4)) (by omega)]
        generalize (τ.2.2.1 (pR0 (sKd τ b)) (sz + (2 + i / 4)) ||| ((τ.2.2.1 38 (nI (q + 1 + i)).toNatClampNeg &&& 255) <<< (((L2.1 5 &&& 3) <<< ((3 : Int32) &&& 31)) &&& 31))) = w
        have s5 := Sy_set s4 (Nat.le_refl _) (h := 2 + i / 4) (by rw [lc]; omega) w
        have es : (em 34 (nI ((m + 3) / 4 + 1)) :: hd0 :: bd0).set (2 + i / 4) w = em 34 (nI ((m + 3) / 4 + 1)) :: hd0 :: bd0.set (i / 4) w := by
          rw [Nat.add_comm 2 (i / 4)]; rfl
        rw [es] at s5
        refine ih (i + 1) _ _ _ _ (bd0.set (i / 4) w) (by omega) (by rw [List.length_set, lb]) l1 l2 l4 ?_ s5
        show L2.1 5 + 1 = _
        rw [l5, n_add1]
    -- words are laid
    have b4 : ∀ (d i : Nat) (L2 : LV) (τ : CS) (a1 a2 : Nat) (bd0 : List Int32), i + d = (m + 3) / 4 → bd0.length = i → L2.1 1 = nI (q + 1) → L2.1 2 = nI m → L2.1 3 = nI ((m + 3) / 4) → L2.1 4 = nI (sz + 1) → L2.1 5 = nI i → Sy T n b u al σ tb.length sz mk a1 a2 tb o q v mk p sz (em 34 (nI ((m + 3) / 4 + 1)) :: hd0 :: bd0) τ → Tm (fun k => f_X5_string k 4 L2 τ) (QPo b u tb.length sz mk x (fun r _ τ => XN T n b u al gl Vm tb o mk p sz q v r τ) σ a1 a2) := by
      intro d
      induction d with
      | zero =>
        intro i L2 τ a1 a2 bd0 hi lb l1 l2 l3 l4 l5 s4
        refine Tm_suc (fun k => by rw [f_X5_string]) ?_
        refine Tm_yes (by rw [l3, l5, n_le (by omega) (by omega)]; omega) ?_
        refine Tm_suc (fun k => by rw [f_X5_string]) ?_
        exact b7 m 0 _ τ _ _ bd0 (by omega) (by omega) l1 l2 l4 rfl s4
      | succ d ih =>
        intro i L2 τ a1 a2 bd0 hi lb l1 l2 l3 l4 l5 s4
        refine Tm_suc (fun k => by rw [f_X5_string]) ?_
        refine Tm_no (by rw [l3, l5, n_le (by omega) (by omega)]; omega) ?_
        refine Tm_oP (Sy_pp s4) ?_
        refine st_word s4 rfl (by show sz + (bd0.length + 1 + 1) + 1 ≤ _; omega) (fun τ5 m5 m6 s5 => ?_)
        have s5' : Sy T n b u al σ tb.length sz mk (a1 + m5) (a2 + m6) tb o q v mk p sz (em 34 (nI ((m + 3) / 4 + 1)) :: hd0 :: (bd0 ++ [(0 : Int32)])) τ5 := s5
        refine ih (i + 1) _ τ5 _ _ (bd0 ++ [(0 : Int32)]) (by omega) (by rw [List.length_append, lb]; rfl) l1 l2 l3 l4 ?_ s5'
        show L2.1 5 + 1 = _
        rw [l5, n_add1]
    exact b4 ((m + 3) / 4) 0 _ τ3 _ _ [] (by omega) rfl rfl rfl hw rfl rfl s3
  · refine Tm_no (by show ¬ nI 1 < nI m; rw [n_lt (by decide) (by omega)]; exact c1) ?_
    refine Tm_oP (Sy_pp s0) ?_
    refine st_emit (op := 33) s0 rfl rfl (by show sz + 0 + 1 ≤ _; omega) (fun τ2 m1 m2 s2 => ?_)
    refine Tm_oP (Sy_pp s2) ?_
    by_cases m0 : m = 0
    · refine Tm_yes (by rw [m0]; rfl) ?_
      exact b3 _ τ2 _ _ rfl (Or.inr (by show uN 0 < 3; decide)) s2
    · refine Tm_no (by rw [n_eq0 (by omega)]; exact m0) ?_
      refine Tm_suc (fun k => by rw [f_X5_string]) ?_
      have tl := s2.1.1.1.1.2.2.1
      have tl2 := s2.1.1.1.1.2.2.2.1
      refine Tm_chk (u_in (by show uN (nI (q + 1)) < _; rw [u_n (by omega)]; show q + 1 < sN τ2 38; omega) (by show sN τ2 38 ≤ _; omega)) ?_
      exact b3 _ τ2 _ _ rfl (by_lit _) s2
end CVO
end JnS456
section JnS457
/-! The class: members of sets and tuples are read. -/
section CVP
variable {σ σ' σ0 τ τ' : CS} {L : LV} {b : Bool} {T : Nat → Int32} {n q q' u al o v mk p sz szB nc0 sz0 mk0 a1 a2 m kk f e t : Nat} {y w : Int32} {l l' cs cs' : List Int32} {tb : List Ent} {α : Type} {S : α → Int32 → CS → Prop} {C : Prop} {E : En} {gl : Nat × (Nat → Nat → Prop)} {Vm : Nat → Prop} {bt : BT}
/-- behind the members of a set or tuple -/
def MbR (T : Nat → Int32) (n : Nat) (b : Bool) (u al : Nat) (gl : Nat × (Nat → Nat → Prop)) (Vm : Nat → Prop) (tb : List Ent) (o mk p sz q v : Nat) (r : RT) (τ : CS) : Prop := ∃ ll : List Int32, QS T n b u al tb o r.1 r.2.1 mk p (sz + ll.length) τ ∧ (∀ i, i < ll.length → cdr b τ (sz + i) = ll.getD i 0) ∧ (∀ c1, Sgm u p gl Vm 1 c1 → Sgm u p gl Vm 1 (c1 ++ ll)) ∧ 2 * ll.length ≤ 3 * (r.1 - q) + 2 ∧ q ≤ r.1 ∧ v ≤ r.2.1
/-- members so far -/
def MbI (u p : Nat) (gl : Nat × (Nat → Nat → Prop)) (Vm : Nat → Prop) (tt c : Nat) (ll : List Int32) : Prop := (c ≤ 1000 → ∀ c1, Sgm u p gl Vm 1 c1 → Sgm u p gl Vm c (c1 ++ ll)) ∧ (1000 < c → ∀ c1, Sgm u p gl Vm 1 c1 → Gth u p gl Vm (1 - tt) (c1 ++ ll))
theorem tt_a {tt : Nat} (ht : tt = 0 ∨ tt = 1) (a : Nat) (ha : a < 1000) : nI a + nI tt = nI (a + tt) := n_add (by omega)
theorem mb_0 (k d : Nat) (L : LV) (σ : CS) : f_F2 (k + 1) d 6 0 L σ = (f_F2 k d 6 1 (lI (lI L 2 1) 3 0) σ) := rfl
theorem mb_1 (k d : Nat) (L : LV) (σ : CS) : f_F2 (k + 1) d 6 1 L σ = (if 32768 < ((L.1 3)) then (f_F2 k d 6 2 L σ) else (if ((σ.1 3702)) = 16 then (ox (f_X2_advance k 0 lZ σ) (fun r3 => if ((L.1 2)) = 1000 then (oP (sPp r3.2.1) (fun b5 => ox (f_X7_emit__P k 0 (lI (lI (lB lZ 0 b5) 1 ((85 + ((L.1 1))))) 2 ((L.1 2))) r3.2.1) (fun r6 => f_F2 k d 6 3 L r6.2.1))) else (f_F2 k d 6 3 L r3.2.1))) else (f_F2 k d 6 2 L σ))) := rfl
theorem mb_2 (k d : Nat) (L : LV) (σ : CS) : f_F2 (k + 1) d 6 2 L σ = (oP (sPp σ) (fun b1 => if ((L.1 2)) ≤ 1000 then (f_F2 k d 6 4 (lB L 100 b1) σ) else (f_F2 k d 6 5 (lB (lI L 100 ((83 + ((L.1 1))))) 101 b1) σ))) := rfl
theorem mb_3 (k d : Nat) (L : LV) (σ : CS) : f_F2 (k + 1) d 6 3 L σ = (of d (fun e1 => ox (f_F2 k e1 1 0 (lI lZ 1 0) σ) (fun r1 => if ((((L.1 2)) + 1)) ≤ 1000 then (f_F2 k d 6 6 (lI L 2 ((((L.1 2)) + 1))) r1.2.1) else (oP (sPp r1.2.1) (fun b3 => ox (f_X7_emit__P k 0 (lI (lI (lB lZ 0 b3) 1 ((81 + ((L.1 1))))) 2 1) r1.2.1) (fun r4 => f_F2 k d 6 6 (lI L 2 ((((L.1 2)) + 1))) r4.2.1)))))) := rfl
theorem mb_4 (k d : Nat) (L : LV) (σ : CS) : f_F2 (k + 1) d 6 4 L σ = (f_F2 k d 6 5 (lB (lI L 100 ((48 + ((L.1 1))))) 101 ((L.2.2.1 100))) σ) := rfl
theorem mb_5 (k d : Nat) (L : LV) (σ : CS) : f_F2 (k + 1) d 6 5 L σ = (ox (f_X7_emit__P k 0 (lI (lI (lB lZ 0 ((L.2.2.1 101))) 1 ((L.1 100))) 2 ((L.1 2))) σ) (fun r1 => some ((0, 0), r1.2.1, (0, 0)))) := rfl
theorem mb_6 (k d : Nat) (L : LV) (σ : CS) : f_F2 (k + 1) d 6 6 L σ = (if ((L.1 2)) = 2 then (if ((σ.1 3702)) = 28 then (ox (f_X2_advance k 0 lZ σ) (fun r3 => of d (fun e4 => ox (f_F2 k e4 1 0 (lI lZ 1 0) r3.2.1) (fun r4 => oP (sPp r4.2.1) (fun b5 => ox (f_X7_emit__P k 0 (lI (lI (lB lZ 0 b5) 1 ((52 + ((L.1 1))))) 2 0) r4.2.1) (fun r6 => some ((0, 0), r6.2.1, (0, 0)))))))) else (f_F2 k d 6 7 L σ)) else (f_F2 k d 6 7 L σ)) := rfl
theorem mb_7 (k d : Nat) (L : LV) (σ : CS) : f_F2 (k + 1) d 6 7 L σ = (f_F2 k d 6 1 (lI L 3 ((((L.1 3)) + 1))) σ) := rfl
theorem c_members {tt g i0 e0 : Nat} {x : Fl RT} (ht : tt = 0 ∨ tt = 1) (h1 : L.1 1 = nI tt) (px : ∀ f', f' ≤ f → PXp T n b u al f' e) (h : QS T n b u al tb o q v mk p sz σ) (ev : EvX E b u al gl Vm tb σ) (bd : BdX n o q v mk p sz tb.length) (hG : G T n f 15 E o q v i0 e0 1 g bt = some x) (hd : 6 * (20 - o) + 8 ≤ e) : Tm (fun k => f_F2 k (e + 1) 6 0 L σ) (QPo b u tb.length sz mk x (fun r _ τ => MbR T n b u al gl Vm tb o mk p sz q v r τ) σ 0 0) := by
  have s0 := Sy_0 h
  have b22 := bd.2.1
  have n10 := bd.1
  have qn := (tk_go h).1
  -- the last instruction
  have b5 : ∀ (L' : LV) (τ : CS) (a1 a2 q1 v1 c op1 : Nat) (r : RT) (ll : List Int32), x = Sum.inr r → r.1 = q1 → r.2.1 = v1 → L'.2.2.1 101 = b → L'.1 100 = nI op1 → L'.1 2 = nI c → Sy T n b u al σ tb.length sz mk a1 a2 tb o q1 v1 mk p sz ll τ → (∀ c1, Sgm u p gl Vm 1 c1 → Sgm u p gl Vm 1 (c1 ++ (ll ++ [em op1 (nI c)]))) → 2 * ll.length ≤ 3 * (q1 - q) → q ≤ q1 → q1 ≤ n → v ≤ v1 → Tm (fun k => f_F2 k (e + 1) 6 5 L' τ) (QPo b u tb.length sz mk x (fun r _ τ => MbR T n b u al gl Vm tb o mk p sz q v r τ) σ a1 a2) := by
    intro L' τ a1 a2 q1 v1 c op1 r ll hx er1 er2 lb l100 l2 s1 sg ln le ln2 lv
    refine Tm_suc (fun k => mb_5 k _ _ _) ?_
    refine st_emit (op := op1) s1 lb l100 (by omega) (fun τ2 m1 m2 s2 => ?_)
    have s2' : Sy T n b u al σ tb.length sz mk (a1 + m1) (a2 + m2) tb o q1 v1 mk p sz (ll ++ [em op1 (nI c)]) τ2 := by
      rw [← l2]; exact s2
    rw [hx]
    have la : (ll ++ [em op1 (nI c)]).length = ll.length + 1 := by rw [List.length_append]; rfl
    refine Tm_some (Qfin s2'.1 ⟨_, by rw [er1, er2]; exact s2'.1.1, s2'.2, sg, ?_, by omega, by omega⟩)
    rw [la, er1]
    omega
  have b1 : ∀ (f1 : Nat), f1 ≤ f → ∀ (L' : LV) (τ : CS) (a1 a2 q1 v1 i1 e1 c : Nat) (bt1 : BT) (ll : List Int32), G T n f1 15 E o q1 v1 i1 e1 c g bt1 = some x → 1 ≤ c → c ≤ q1 + 1 → L'.1 1 = nI tt → L'.1 2 = nI c → L'.1 3 = nI (c - 1) → Sy T n b u al σ tb.length sz mk a1 a2 tb o q1 v1 mk p sz ll τ → MbI u p gl Vm tt c ll → 2 * ll.length + (if c ≤ 1000 then 2 * (c - 1) else 0) ≤ 3 * (q1 - q) → q ≤ q1 → v ≤ v1 → Tm (fun k => f_F2 k (e + 1) 6 1 L' τ) (QPo b u tb.length sz mk x (fun r _ τ => MbR T n b u al gl Vm tb o mk p sz q v r τ) σ a1 a2) := by
    intro f1
    induction f1 with
    | zero =>
      intro _ L' τ a1 a2 q1 v1 i1 e1 c bt1 ll hg
      exact absurd hg (by intro z; cases z)
    | succ f1 ih =>
      intro hf L' τ a1 a2 q1 v1 i1 e1 c bt1 ll hg c1 cq l1 l2 l3 s1 mi ln le lv
      have go1 := tk_go s1.1.1
      have e15 : G T n (f1 + 1) 15 E o q1 v1 i1 e1 c g bt1 = (if tkK T n q1 = 12 then gT T n q1 (fun q2 => gb (G T n f1 0 E o q2 v1 0 0 0 0 bt1) (fun r => if c = 1 ∧ tkK T n r.1 = 16 then gT T n r.1 (fun q2 => gb (G T n f1 0 E o q2 r.2.1 0 0 0 0 r.2.2.2.2.1) (fun s => some (Sum.inr (s.1, s.2.1, 0, s.2.2.2.2.1.1, bWrap s.2.2.2.2.1 12 (nI g) (nI i1) (nI r.2.2.2.1) (nI s.2.2.2.1), [])))) else G T n f1 15 E o r.1 r.2.1 i1 r.2.2.2.1 (c + 1) g (bSet r.2.2.2.2.1 9 e1 (nI r.2.2.2.1)))) else some (Sum.inr (q1, v1, 0, bt1.1, bNode bt1 (if g = 1 then 10 else 11) 0 (nI i1) (nI c), []))) := rfl
      rw [e15] at hg
      refine Tm_suc (fun k => mb_1 k _ _ _) ?_
      refine Tm_no ?_ ?_
      · rw [l3]
        show ¬ nI 32768 < nI (c - 1)
        rw [n_lt (by decide) (by omega)]
        omega
      by_cases k12 : tkK T n q1 = 12
      · rw [if_pos k12] at hg
        have g2 := go1.2.2 (by omega)
        refine Tm_yes ((lx_k (kk := 12) s1.1.1 (by decide)).2 k12) ?_
        refine st_advY s1 (gT_any hg) (fun τ2 r2 er c2 s2 => ?_)
        rw [er]
        -- from the exp on
        have b3 : ∀ (L3 : LV) (τ3 : CS) (a3 a4 : Nat) (ls : List Int32), L3.1 1 = nI tt → L3.1 2 = nI c → L3.1 3 = nI (c - 1) → Sy T n b u al σ tb.length sz mk a3 a4 tb o (tkN T n q1) v1 mk p sz ls τ3 → ((c < 1000 ∧ ls = ll) ∨ (1000 ≤ c ∧ (∀ c1, Sgm u p gl Vm 1 c1 → Gth u p gl Vm (1 - tt) (c1 ++ ls)))) → 2 * ls.length + (if c < 1000 then 2 * (c - 1) else 0) + 3 ≤ 3 * (tkN T n q1 - q) → Tm (fun k => f_F2 k (e + 1) 6 3 L3 τ3) (QPo b u tb.length sz mk x (fun r _ τ => MbR T n b u al gl Vm tb o mk p sz q v r τ) σ a3 a4) := by
          intro L3 τ3 a3 a4 ls l1 l2 l3 s3 hc ln3
          refine Tm_suc (fun k => mb_3 k _ _ _) ?_
          refine Tm_d ?_
          have bd3 : BdX n o (tkN T n q1) v1 mk p (sz + ls.length) tb.length := BdX_g bd (by omega) go1.2.1 (Nat.le_refl _) lv (by omega)
          rcases gb_any c2 with ⟨yf, y1, y2⟩ | ⟨r4, y1, y2⟩
          · exact st_exp (C := True) (px f1 (by omega)) (Or.inl ⟨rfl, rfl⟩) s3 (EvX_k ev s3.1.2.1) bd3 rfl hd y1 (Or.inl ⟨_, rfl, y2⟩) (fun _ _ _ _ _ _ z => by cases z)
          refine st_exp (C := True) (px f1 (by omega)) (Or.inl ⟨rfl, rfl⟩) s3 (EvX_k ev s3.1.2.1) bd3 rfl hd y1 (Or.inr ⟨r4, rfl, trivial⟩) (fun τ4 ret4 m1 m2 r4' l4 hz4 _ s4 xk4 sg4 ln4 lt4 lv4 tg4 => ?_)
          cases hz4
          have go4 := tk_go s4.1.1
          have la : (ls ++ l4).length = ls.length + l4.length := List.length_append
          -- behind the exp
          have b6 : ∀ (L5 : LV) (τ5 : CS) (a5 a6 : Nat) (l5 : List Int32), L5.1 1 = nI tt → L5.1 2 = nI (c + 1) → L5.1 3 = nI (c - 1) → Sy T n b u al σ tb.length sz mk a5 a6 tb o r4.1 r4.2.1 mk p sz l5 τ5 → MbI u p gl Vm tt (c + 1) l5 → 2 * l5.length + (if c + 1 ≤ 1000 then 2 * c else 0) ≤ 3 * (r4.1 - q) → Tm (fun k => f_F2 k (e + 1) 6 6 L5 τ5) (QPo b u tb.length sz mk x (fun r _ τ => MbR T n b u al gl Vm tb o mk p sz q v r τ) σ a5 a6) := by
            intro L5 τ5 a5 a6 l5 l1 l2 l3 s5 mi5 ln5
            have b7 : ¬ (c = 1 ∧ tkK T n r4.1 = 16) → Tm (fun k => f_F2 k (e + 1) 6 7 L5 τ5) (QPo b u tb.length sz mk x (fun r _ τ => MbR T n b u al gl Vm tb o mk p sz q v r τ) σ a5 a6) := by
              intro hn
              rw [if_neg hn] at y2
              refine Tm_suc (fun k => mb_7 k _ _ _) ?_
              refine ih (by omega) _ τ5 a5 a6 r4.1 r4.2.1 _ _ (c + 1) _ l5 y2 (by omega) (by omega) l1 l2 ?_ s5 mi5 ln5 (by omega) (by omega)
              show L5.1 3 + 1 = _
              rw [l3, n_add1]
              exact congrArg nI (by omega)
            refine Tm_suc (fun k => mb_6 k _ _ _) ?_
            rw [l2]
            by_cases e1' : c = 1
            · refine Tm_yes (by rw [e1']; rfl) ?_
              by_cases k16 : tkK T n r4.1 = 16
              · rw [if_pos ⟨e1', k16⟩] at y2
                refine Tm_yes ((lx_k (kk := 16) s5.1.1 (by decide)).2 k16) ?_
                have g5 := go4.2.2 (by omega)
                refine st_advY s5 (gT_any y2) (fun τ6 r6 er6 c6 s6 => ?_)
                rw [er6]
                refine Tm_d ?_
                rw [if_pos (by omega)] at ln5
                have bd6 : BdX n o (tkN T n r4.1) r4.2.1 mk p (sz + l5.length) tb.length := BdX_g bd (by omega) go4.2.1 (Nat.le_refl _) (by omega) (by omega)
                rcases gb_any c6 with ⟨yf, z1, z2⟩ | ⟨r7, z1, z2⟩
                · exact st_exp (C := True) (px f1 (by omega)) (Or.inl ⟨rfl, rfl⟩) s6 (EvX_k ev s6.1.2.1) bd6 rfl hd z1 (Or.inl ⟨_, rfl, z2⟩) (fun _ _ _ _ _ _ z => by cases z)
                refine st_exp (C := True) (px f1 (by omega)) (Or.inl ⟨rfl, rfl⟩) s6 (EvX_k ev s6.1.2.1) bd6 rfl hd z1 (Or.inr ⟨r7, rfl, trivial⟩) (fun τ7 ret7 p1 p2 r7' l7 hz7 _ s7 xk7 sg7 ln7 lt7 lv7 tg7 => ?_)
                cases hz7
                have q7n := (tk_go s7.1.1).1
                have lb : (l5 ++ l7).length = l5.length + l7.length := List.length_append
                refine Tm_oP (Sy_pp s7) ?_
                refine st_emit (op := 52 + tt) s7 rfl (by show nI 52 + L5.1 1 = _; rw [l1]; exact tt_a ht 52 (by decide)) (by rw [lb]; omega) (fun τ8 x1 x2 s8 => ?_)
                have lc : (l5 ++ l7 ++ [em (52 + tt) 0]).length = l5.length + l7.length + 1 := by rw [List.length_append, lb]; rfl
                rw [← Option.some.inj z2]
                refine Tm_some (Qfin s8.1 ⟨_, s8.1.1, s8.2, fun c1 sg1 => ?_, ?_, ?_, ?_⟩)
                · have g2' := mi5.1 (by omega) c1 sg1
                  rw [e1'] at g2'
                  have g3 := Sgm_seq g2' sg7
                  have g4 : Sgm u p gl Vm 1 (c1 ++ l5 ++ l7 ++ [em (52 + tt) 0]) := by
                    have hl1 : 1 ≤ (c1 ++ l5 ++ l7).length + 1 := by omega
                    rcases ht with z | z
                    · rw [z]
                      exact Sgm_ap g3 (Nat.le_refl _) hl1 It_ps
                    · rw [z]
                      exact Sgm_ap g3 (Nat.le_refl _) hl1 It_pt
                  have ea : c1 ++ (l5 ++ l7 ++ [em (52 + tt) 0]) = c1 ++ l5 ++ l7 ++ [em (52 + tt) 0] := by simp only [List.append_assoc]
                  show Sgm u p gl Vm 1 (c1 ++ (l5 ++ l7 ++ [em (52 + tt) 0]))
                  rw [ea]
                  exact g4
                · show 2 * (l5 ++ l7 ++ [em (52 + tt) 0]).length ≤ 3 * (r7.1 - q) + 2
                  rw [lc]; omega
                · show q ≤ r7.1
                  omega
                · show v ≤ r7.2.1
                  omega
              · refine Tm_no (fun z => k16 ((lx_k (kk := 16) s5.1.1 (by decide)).1 z)) ?_
                exact b7 (fun z => k16 z.2)
            · refine Tm_no (fun z => e1' ?_) ?_
              · have z' : nI (c + 1) = nI 2 := z
                rw [n_eq (by omega) (by decide)] at z'
                omega
              · exact b7 (fun z => e1' z.1)
          have ec1 : L3.1 2 + 1 = nI (c + 1) := by rw [l2, n_add1]
          rw [ec1]
          by_cases c1000 : c + 1 ≤ 1000
          · refine Tm_yes (by show nI (c + 1) ≤ nI 1000; rw [n_le (by omega) (by decide)]; exact c1000) ?_
            rcases hc with ⟨h1', h2'⟩ | ⟨h1', _⟩
            · subst h2'
              rw [if_pos (by omega)] at ln3
              refine b6 _ τ4 _ _ _ l1 rfl l3 s4 ⟨fun _ c1 sg1 => ?_, fun z => by omega⟩ ?_
              · rw [← List.append_assoc]
                exact Sgm_seq (mi.1 (by omega) c1 sg1) sg4
              · rw [if_pos c1000, la]
                omega
            · omega
          · refine Tm_no (by show ¬ nI (c + 1) ≤ nI 1000; rw [n_le (by omega) (by decide)]; exact c1000) ?_
            rcases hc with ⟨h1', h2'⟩ | ⟨h1', gt⟩
            · omega
            · rw [if_neg (by omega)] at ln3
              refine Tm_oP (Sy_pp s4) ?_
              refine st_emit (op := 81 + tt) s4 rfl (by show nI 81 + L3.1 1 = _; rw [l1]; exact tt_a ht 81 (by decide)) (by rw [la]; omega) (fun τ5 x1 x2 s5 => ?_)
              have lc : (ls ++ l4 ++ [em (81 + tt) 1]).length = ls.length + l4.length + 1 := by rw [List.length_append, la]; rfl
              refine b6 _ τ5 _ _ (ls ++ l4 ++ [em (81 + tt) 1]) l1 rfl l3 s5 ⟨fun z => by omega, fun _ c1 sg1 => ?_⟩ ?_
              · have g4 : Gth u p gl Vm (1 - tt) (c1 ++ ls ++ (l4 ++ [em (81 + tt) 1])) := by
                  refine Gth_ga ?_ (Or.inl (by decide)) (gt c1 sg1) sg4
                  rcases ht with z | z
                  · rw [z]; exact Or.inl ⟨rfl, rfl⟩
                  · rw [z]; exact Or.inr ⟨rfl, rfl⟩
                have ea : c1 ++ (ls ++ l4 ++ [em (81 + tt) 1]) = c1 ++ ls ++ (l4 ++ [em (81 + tt) 1]) := by simp only [List.append_assoc]
                rw [ea]
                exact g4
              · rw [if_neg c1000, lc]
                omega
        rw [l2]
        by_cases c1000 : c = 1000
        · refine Tm_yes (by rw [c1000]; rfl) ?_
          rw [if_pos (by omega)] at ln
          refine Tm_oP (Sy_pp s2) ?_
          refine st_emit (op := 85 + tt) s2 rfl (by show nI 85 + L'.1 1 = _; rw [l1]; exact tt_a ht 85 (by decide)) (by omega) (fun τ5 x1 x2 s5 => ?_)
          have la : (ll ++ [em (85 + tt) (nI c)]).length = ll.length + 1 := by rw [List.length_append]; rfl
          refine b3 _ τ5 _ _ (ll ++ [em (85 + tt) (nI c)]) l1 l2 l3 s5 (Or.inr ⟨by omega, fun c1 sg1 => ?_⟩) ?_
          · rw [← List.append_assoc]
            refine Gth_jn ?_ ⟨by omega, by omega⟩ (mi.1 (by omega) c1 sg1)
            rcases ht with z | z
            · rw [z]; exact Or.inl ⟨rfl, rfl⟩
            · rw [z]; exact Or.inr ⟨rfl, rfl⟩
          · rw [la, if_neg (by omega)]
            omega
        · refine Tm_no (fun z => c1000 ?_) ?_
          · have z' : nI c = nI 1000 := z
            rw [n_eq (by omega) (by decide)] at z'
            exact z'
          · refine b3 _ τ2 _ _ ll l1 l2 l3 s2 ?_ ?_
            · rcases Nat.lt_or_ge c 1000 with z | z
              · exact Or.inl ⟨z, rfl⟩
              · exact Or.inr ⟨z, mi.2 (by omega)⟩
            · rcases Nat.lt_or_ge c 1000 with z | z
              · rw [if_pos (by omega)] at ln
                rw [if_pos z]
                omega
              · rw [if_neg (by omega)] at ln
                rw [if_neg (by omega)]
                omega
      · rw [if_neg k12] at hg
        refine Tm_no (fun z => k12 ((lx_k (kk := 12) s1.1.1 (by decide)).1 z)) ?_
        refine Tm_suc (fun k => mb_2 k _ _ _) ?_
        refine Tm_oP (Sy_pp s1) ?_
        rw [l2]
        have hx := (Option.some.inj hg).symm
        by_cases c1000 : c ≤ 1000
        · refine Tm_yes (by show nI c ≤ nI 1000; rw [n_le (by omega) (by decide)]; exact c1000) ?_
          refine Tm_suc (fun k => mb_4 k _ _ _) ?_
          refine b5 _ τ a1 a2 q1 v1 c (48 + tt) _ ll hx rfl rfl rfl (by show nI 48 + L'.1 1 = _; rw [l1]; exact tt_a ht 48 (by decide)) l2 s1 (fun c1 sg1 => ?_) (by omega) le go1.1 lv
          rw [← List.append_assoc]
          have g2 := mi.1 c1000 c1 sg1
          have hl1 : 1 ≤ (c1 ++ ll).length + 1 := by omega
          rcases ht with z | z
          · rw [z]
            exact Sgm_ap g2 (Nat.le_refl _) hl1 (It_ms (u_n (by omega)) (by omega))
          · rw [z]
            exact Sgm_ap g2 (Nat.le_refl _) hl1 (It_mt (u_n (by omega)) (by omega))
        · refine Tm_no (by show ¬ nI c ≤ nI 1000; rw [n_le (by omega) (by decide)]; exact c1000) ?_
          refine b5 _ τ a1 a2 q1 v1 c (83 + tt) _ ll hx rfl rfl rfl (by show nI 83 + L'.1 1 = _; rw [l1]; exact tt_a ht 83 (by decide)) l2 s1 (fun c1 sg1 => ?_) (by omega) le go1.1 lv
          rw [← List.append_assoc]
          exact Sgm_gd (by omega) (Sm3_n (by omega)) (mi.2 (by omega) c1 sg1)
  refine Tm_suc (fun k => mb_0 k _ _ _) ?_
  exact b1 f (Nat.le_refl _) _ σ 0 0 q v i0 e0 1 bt [] hG (by omega) (by omega) h1 rfl rfl s0 ⟨fun _ c1 sg1 => by rw [List.append_nil]; exact sg1, fun z => by omega⟩ (by show 2 * 0 + _ ≤ _; rw [if_pos (by decide)]; omega) (Nat.le_refl _) (Nat.le_refl _)
end CVP
end JnS457
section JnS458
/-! The class: names are told, hidden, seen, and taken back. -/
section CVQ
variable {σ σ' σ0 τ τ' : CS} {L : LV} {b : Bool} {T : Nat → Int32} {n q q' u al o v mk p sz szB nc0 sz0 mk0 a1 a2 m kk f e t nc : Nat} {y w : Int32} {l l' cs cs' : List Int32} {tb tb' : List Ent} {α : Type} {S : α → Int32 → CS → Prop} {x : Fl α} {C : Prop} {E : En} {gl : Nat × (Nat → Nat → Prop)} {Vm : Nat → Prop} {bt : BT}
theorem gE_l {a c : List Ent} {i : Nat} (h : i < a.length) : (a ++ c).getD i e0E = a.getD i e0E := by
  rw [List.getD_eq_getElem?_getD, List.getD_eq_getElem?_getD, List.getElem?_append_left h]
theorem gE_r {a c : List Ent} (i : Nat) : (a ++ c).getD (a.length + i) e0E = c.getD i e0E := by
  rw [List.getD_eq_getElem?_getD, List.getD_eq_getElem?_getD, List.getElem?_append_right (Nat.le_add_right _ _), Nat.add_sub_cancel_left]
theorem gE_0 {a : List Ent} {c : Ent} : (a ++ [c]).getD a.length e0E = c := gE_r (a := a) (c := [c]) 0
theorem uA_k {k i k' : Nat} {x : Int32} (h : k' ≠ k) : (uA σ k i x).2.2.1 k' = σ.2.2.1 k' := updG_other h
theorem uJ_k {k i k' : Nat} {x : Int64} (h : k' ≠ k) : (uJ σ k i x).2.2.2.1 k' = σ.2.2.2.1 k' := if_neg h
theorem uJ_r {k i : Nat} {x : Int64} : (uJ σ k i x).2.2.2.1 k = fun j => if j = i then x else σ.2.2.2.1 k j := if_pos rfl
/-- only the table of names changes, from the nc-th on -/
def TbQ (b : Bool) (nc : Nat) (tb' : List Ent) (σ σ' : CS) : Prop := (∀ j, ¬ j = fP b 11 → σ'.1 j = σ.1 j) ∧ σ'.2.1 = σ.2.1 ∧ (∀ k, ¬ (k = pR7 b ∨ k = pR8 b ∨ k = pR9 b ∨ k = pR10 b) → σ'.2.2.1 k = σ.2.2.1 k) ∧ (∀ k, ¬ (k = pR5 b ∨ k = pR6 b) → σ'.2.2.2.1 k = σ.2.2.2.1 k) ∧ σ'.2.2.2.2 = σ.2.2.2.2 ∧ (∀ i, i < nc → (σ'.2.2.2.1 (pR5 b) i = σ.2.2.2.1 (pR5 b) i ∧ σ'.2.2.2.1 (pR6 b) i = σ.2.2.2.1 (pR6 b) i) ∧ (σ'.2.2.1 (pR7 b) i = σ.2.2.1 (pR7 b) i ∧ σ'.2.2.1 (pR8 b) i = σ.2.2.1 (pR8 b) i) ∧ σ'.2.2.1 (pR9 b) i = σ.2.2.1 (pR9 b) i ∧ σ'.2.2.1 (pR10 b) i = σ.2.2.1 (pR10 b) i) ∧ TbR b tb' σ'
theorem QS_tb (h : QS T n b u al tb o q v mk p sz σ) (a : TbQ b nc tb' σ σ') : QS T n b u al tb' o q v mk p sz σ' ∧ XK b u nc sz mk σ σ' := by
  obtain ⟨h1, h2, h3, h4, ⟨h5, h5', h5''⟩, ⟨h6, h6'⟩, ⟨h7, h7'⟩, h8⟩ := h
  obtain ⟨f1, f2, f3, f4, f5, f6, f7⟩ := a
  have pc := pR_c b
  have fc1 := fP_c b 1
  have fc2 := fP_c b 11
  have fc3 := fP_c b 19
  have n1 := fP_ne b (i := 1) (j := 11) (by decide)
  have n2 := fP_ne b (i := 19) (j := 11) (by decide)
  have sn : ∀ k, sN σ' k = sN σ k := fun k => by show σ'.2.2.2.2.1 k = _; rw [f5]
  have kd : ∀ c, sKd σ' c = sKd σ c := fun c => by show σ'.2.2.2.2.2.1.2.2.2.2 c = _; rw [f5]
  have cd : ∀ c i, cdr c σ' i = cdr c σ i := fun c i => by
    show σ'.2.2.1 (pR0 (sKd σ' c)) i = _
    rw [kd c]
    rcases pR0_c (sKd σ c) with z | z
    · rw [f3 _ (by omega)]
    · rw [f3 _ (by omega)]
  have cl := CdL_s h2 (f1 _ n1) (kd b) ⟨sn 43, sn 51⟩
  have m3 := h3.2
  refine ⟨⟨LxQ_s h1 (fun j _ hj => f1 j (by omega)) (by rw [f2]; exact ⟨rfl, rfl⟩) (f3 38 (by omega)) (sn 38) (f4 39 (by omega)), cl, ⟨by rw [f1 _ (by omega)]; exact h3.1, by rw [sn]; exact m3.1, by rw [sn]; exact m3.2⟩, f7, ⟨by show σ'.2.2.2.2.2.1.2.2.2.1 = _; rw [f5]; exact h5, by rw [f1 _ (by omega)]; exact h5', ⟨by rw [f1 _ (by omega)]; exact h5''.1, by rw [f1 _ (by omega)]; exact h5''.2⟩⟩, ⟨by rw [f1 _ (by omega)]; exact h6, h6'⟩, ⟨by rw [f3 _ (by omega)]; exact h7, h7'⟩, by rw [f1 _ n2]; exact h8⟩, ?_⟩
  exact ⟨⟨fun j hj => f1 j (by omega), fun j _ => by rw [f2]⟩, ⟨fun k hk => f3 k (by omega), fun k hk => sn k, f4⟩, ⟨⟨by show σ'.2.2.2.2.2.1.1 = _; rw [f5], by show σ'.2.2.2.2.2.1.2.1 = _; rw [f5], by show σ'.2.2.2.2.2.1.2.2.1 = _; rw [f5], by show σ'.2.2.2.2.2.1.2.2.2.1 = _; rw [f5]⟩, fun c _ => kd c, by rw [f5]⟩, fun i _ => by rw [f3 _ (by omega)], f6, fun i _ => ⟨cd b i, cd (!b) i⟩, fun i _ => by rw [f3 41 (by omega)], cl.2, ⟨by rw [sn]; omega, by rw [sn]; exact m3.2⟩⟩
theorem Sy_tb (h : Sy T n b u al σ0 nc0 sz0 mk0 a1 a2 tb o q v mk p szB cs τ) (a : TbQ b nc tb' τ τ') (h1 : nc0 ≤ nc) (h2 : nc0 ≤ tb'.length) : Sy T n b u al σ0 nc0 sz0 mk0 a1 a2 tb' o q v mk p szB cs τ' := by
  obtain ⟨q1, q2⟩ := QS_tb h.1.1 a
  have ph := Ph_s (σ := τ) (σ' := τ') (by rw [a.2.2.2.2.1])
  obtain ⟨⟨h1', h2', h3, h4, h5, h6⟩, k2⟩ := h
  refine ⟨⟨q1, XK_t h2' q2 h1 h5 h6, ⟨by omega, by omega⟩, h2, h5, h6⟩, fun i hi => ?_⟩
  rw [(q2.2.2.2.2.2.1 (szB + i) (by omega)).1]
  exact k2 i hi
theorem c_toldFrom {bs : List Int32} {r0 : Nat} (h : TbR b tb σ) (hb : L.2.2.1 0 = b) (hk : okN bs) (h2 : L.2.1 2 = kyH bs) (h4 : L.2.1 4 = kyL bs) (h1 : L.1 1 = nI r0) (hr : r0 ≤ tb.length) : Tm (fun k => y_X7_isToldFrom__P k 0 L σ) (fun r => r.2 = σ ∧ (r.1 = 0 ↔ ∀ j, r0 ≤ j → j < tb.length → ¬ (tb.getD j e0E).1 = bs)) := by
  obtain ⟨t1, t2, t3⟩ := h
  have b1 : ∀ (d i : Nat) (L' : LV), i + d = tb.length → r0 ≤ i → L'.2.2.1 0 = b → L'.2.1 2 = kyH bs → L'.2.1 4 = kyL bs → L'.1 6 = nI i → (∀ j, r0 ≤ j → j < i → ¬ (tb.getD j e0E).1 = bs) → Tm (fun k => y_X7_isToldFrom__P k 1 L' σ) (fun r => r.2 = σ ∧ (r.1 = 0 ↔ ∀ j, r0 ≤ j → j < tb.length → ¬ (tb.getD j e0E).1 = bs)) := by
    intro d
    induction d with
    | zero =>
      intro i L' hi ri lb l2 l4 l6 no
      refine Tm_suc (fun k => by rw [y_X7_isToldFrom__P]) ?_
      rw [lb, t1, l6]
      refine Tm_yes (by rw [n_le (by omega) (by omega)]; omega) ?_
      refine Tm_suc (fun k => by rw [y_X7_isToldFrom__P]) ?_
      exact Tm_some ⟨rfl, fun _ j j1 j2 => no j j1 (by omega), fun _ => rfl⟩
    | succ d ih =>
      intro i L' hi ri lb l2 l4 l6 no
      obtain ⟨w1, w2, w3, w4, w5, w6, w7⟩ := t3 i (by omega)
      have nx : ¬ (tb.getD i e0E).1 = bs → Tm (fun k => y_X7_isToldFrom__P k 3 L' σ) (fun r => r.2 = σ ∧ (r.1 = 0 ↔ ∀ j, r0 ≤ j → j < tb.length → ¬ (tb.getD j e0E).1 = bs)) := by
        intro ne
        refine Tm_suc (fun k => by rw [y_X7_isToldFrom__P]) ?_
        refine ih (i + 1) _ (by omega) (by omega) lb l2 l4 ?_ (fun j j1 j2 => ?_)
        · show L'.1 6 + 1 = _
          rw [l6, n_add1]
        · by_cases z : j = i
          · rw [z]; exact ne
          · exact no j j1 (by omega)
      have ki := ky_inj w1 hk
      refine Tm_suc (fun k => by rw [y_X7_isToldFrom__P]) ?_
      rw [lb, t1, l6]
      refine Tm_no (by rw [n_le (by omega) (by omega)]; omega) ?_
      have ii : ¬ (nI i < 0 ∨ 256 ≤ (nI i).toNatClampNeg) := u_in (by rw [u_n (by omega)]; omega) (by decide)
      refine Tm_chk ii ?_
      rw [n_cl (p := i) (by omega), w2, w3, l2, l4]
      refine Tm_ite (fun g1 => ?_) (fun g1 => nx (fun z => g1 (nbCmp_0.mpr (ki.2 z).1)))
      rw [n_cl (p := i) (by omega)] at ii
      refine Tm_chk ii ?_
      refine Tm_ite (fun g2 => ?_) (fun g2 => nx (fun z => g2 (nbCmp_0.mpr (ki.2 z).2)))
      refine Tm_some ⟨rfl, fun z => absurd (show (1 : Int32) = 0 from z) (by decide), fun z => ?_⟩
      exact absurd (ki.1 ⟨nbCmp_0.mp g1, nbCmp_0.mp g2⟩) (z i ri (by omega))
  refine Tm_suc (fun k => by rw [y_X7_isToldFrom__P]) ?_
  exact b1 (tb.length - r0) r0 _ (by omega) (Nat.le_refl _) hb h2 h4 h1 (fun j j1 j2 => by omega)
theorem c_tell {bs : List Int32} {w0 o0 s0 : Nat} (h : TbR b tb σ) (hl : tb.length < 256) (hb : L.2.2.1 0 = b) (hk : okN bs) (h1 : L.2.1 1 = kyH bs) (h3 : L.2.1 3 = kyL bs) (h5 : L.1 5 = nI w0) (h6 : L.1 6 = nI o0) (h7 : L.1 7 = nI s0) : Tm (fun k => y_X7_tell__P k 0 L σ) (fun r => TbQ b tb.length (tb ++ [(bs, w0, o0, s0, false)]) σ r.2) := by
  obtain ⟨t1, t2, t3⟩ := h
  have pc := pR_c b
  have fc2 := fP_c b 11
  have ii : ¬ (σ.1 (fP (L.2.2.1 0) 11) < 0 ∨ 256 ≤ (σ.1 (fP (L.2.2.1 0) 11)).toNatClampNeg) := by
    rw [hb, t1]
    exact u_in (by rw [u_n (by omega)]; omega) (by decide)
  refine Tm_suc (fun k => by rw [y_X7_tell__P]) ?_
  refine Tm_no (by rw [hb, t1]; show ¬ nI 256 ≤ nI tb.length; rw [n_le (by decide) (by omega)]; omega) ?_
  refine Tm_chk ii (Tm_chk ii (Tm_chk ii ?_))
  refine Tm_suc (fun k => by rw [y_X7_tell__P]) ?_
  refine Tm_chk ii (Tm_chk ii (Tm_chk ii ?_))
  refine Tm_suc (fun k => by rw [y_X7_tell__P]) ?_
  refine Tm_suc (fun k => by rw [y_X7_tell__P]) ?_
  refine Tm_some ?_
  show TbQ b tb.length (tb ++ [(bs, w0, o0, s0, false)]) σ (uI (uA (uA (uA (uA (uJ (uJ σ (pR5 (L.2.2.1 0)) (σ.1 (fP (L.2.2.1 0) 11)).toNatClampNeg (L.2.1 1)) (pR6 (L.2.2.1 0)) (σ.1 (fP (L.2.2.1 0) 11)).toNatClampNeg (L.2.1 3)) (pR7 (L.2.2.1 0)) (σ.1 (fP (L.2.2.1 0) 11)).toNatClampNeg (L.1 5)) (pR8 (L.2.2.1 0)) (σ.1 (fP (L.2.2.1 0) 11)).toNatClampNeg (L.1 6)) (pR9 (L.2.2.1 0)) (σ.1 (fP (L.2.2.1 0) 11)).toNatClampNeg (L.1 7)) (pR10 (L.2.2.1 0)) (σ.1 (fP (L.2.2.1 0) 11)).toNatClampNeg (vp_nar .boolean 0)) (fP (L.2.2.1 0) 11) (σ.1 (fP (L.2.2.1 0) 11) + 1))
  rw [hb, t1, n_cl (p := tb.length) (by omega), n_add1, h1, h3, h5, h6, h7, show vp_nar .boolean 0 = (0 : Int32) from rfl]
  have r5 : ∀ i, (uJ (uJ σ (pR5 b) tb.length (kyH bs)) (pR6 b) tb.length (kyL bs)).2.2.2.1 (pR5 b) i = if i = tb.length then kyH bs else σ.2.2.2.1 (pR5 b) i := fun i => by
    rw [uJ_k (by omega), uJ_r]
  have r6 : ∀ i, (uJ (uJ σ (pR5 b) tb.length (kyH bs)) (pR6 b) tb.length (kyL bs)).2.2.2.1 (pR6 b) i = if i = tb.length then kyL bs else σ.2.2.2.1 (pR6 b) i := fun i => by
    rw [uJ_r, uJ_k (by omega)]
  generalize hJ : uJ (uJ σ (pR5 b) tb.length (kyH bs)) (pR6 b) tb.length (kyL bs) = σj at *
  have j1 : σj.1 = σ.1 := by rw [← hJ]; rfl
  have j2 : σj.2.1 = σ.2.1 := by rw [← hJ]; rfl
  have j3 : σj.2.2.1 = σ.2.2.1 := by rw [← hJ]; rfl
  have j4 : ∀ k, ¬ (k = pR5 b ∨ k = pR6 b) → σj.2.2.2.1 k = σ.2.2.2.1 k := fun k hk => by rw [← hJ, uJ_k (by omega), uJ_k (by omega)]
  have j5 : σj.2.2.2.2 = σ.2.2.2.2 := by rw [← hJ]; rfl
  have r7 : ∀ i, (uA (uA (uA (uA σj (pR7 b) tb.length (nI w0)) (pR8 b) tb.length (nI o0)) (pR9 b) tb.length (nI s0)) (pR10 b) tb.length 0).2.2.1 (pR7 b) i = if i = tb.length then nI w0 else σ.2.2.1 (pR7 b) i := fun i => by
    rw [uA_k (by omega), uA_k (by omega), uA_k (by omega), uA_r, j3]; rfl
  have r8 : ∀ i, (uA (uA (uA (uA σj (pR7 b) tb.length (nI w0)) (pR8 b) tb.length (nI o0)) (pR9 b) tb.length (nI s0)) (pR10 b) tb.length 0).2.2.1 (pR8 b) i = if i = tb.length then nI o0 else σ.2.2.1 (pR8 b) i := fun i => by
    rw [uA_k (by omega), uA_k (by omega), uA_r, uA_k (by omega), j3]; rfl
  have r9 : ∀ i, (uA (uA (uA (uA σj (pR7 b) tb.length (nI w0)) (pR8 b) tb.length (nI o0)) (pR9 b) tb.length (nI s0)) (pR10 b) tb.length 0).2.2.1 (pR9 b) i = if i = tb.length then nI s0 else σ.2.2.1 (pR9 b) i := fun i => by
    rw [uA_k (by omega), uA_r, uA_k (by omega), uA_k (by omega), j3]; rfl
  have r10 : ∀ i, (uA (uA (uA (uA σj (pR7 b) tb.length (nI w0)) (pR8 b) tb.length (nI o0)) (pR9 b) tb.length (nI s0)) (pR10 b) tb.length 0).2.2.1 (pR10 b) i = if i = tb.length then 0 else σ.2.2.1 (pR10 b) i := fun i => by
    rw [uA_r, uA_k (by omega), uA_k (by omega), uA_k (by omega), j3]; rfl
  have rr : ∀ k, ¬ (k = pR7 b ∨ k = pR8 b ∨ k = pR9 b ∨ k = pR10 b) → (uA (uA (uA (uA σj (pR7 b) tb.length (nI w0)) (pR8 b) tb.length (nI o0)) (pR9 b) tb.length (nI s0)) (pR10 b) tb.length 0).2.2.1 k = σ.2.2.1 k := fun k hk => by
    rw [uA_k (by omega), uA_k (by omega), uA_k (by omega), uA_k (by omega), j3]
  generalize hA : uA (uA (uA (uA σj (pR7 b) tb.length (nI w0)) (pR8 b) tb.length (nI o0)) (pR9 b) tb.length (nI s0)) (pR10 b) tb.length 0 = σa at *
  have k1 : σa.1 = σ.1 := by rw [← hA]; exact j1
  have k2 : σa.2.1 = σ.2.1 := by rw [← hA]; exact j2
  have k4 : σa.2.2.2.1 = σj.2.2.2.1 := by rw [← hA]; rfl
  have k5 : σa.2.2.2.2 = σ.2.2.2.2 := by rw [← hA]; exact j5
  refine ⟨fun j hj => by rw [uI_o hj, k1], k2, rr, fun k hk => by show σa.2.2.2.1 k = _; rw [k4]; exact j4 k hk, k5, fun i hi => ?_, ?_⟩
  · show (σa.2.2.2.1 (pR5 b) i = _ ∧ σa.2.2.2.1 (pR6 b) i = _) ∧ (σa.2.2.1 (pR7 b) i = _ ∧ σa.2.2.1 (pR8 b) i = _) ∧ σa.2.2.1 (pR9 b) i = _ ∧ σa.2.2.1 (pR10 b) i = _
    rw [k4, r5, r6, r7, r8, r9, r10]
    have z : ¬ i = tb.length := by omega
    rw [if_neg z, if_neg z, if_neg z, if_neg z, if_neg z, if_neg z]
    exact ⟨⟨rfl, rfl⟩, ⟨rfl, rfl⟩, rfl, rfl⟩
  · refine ⟨?_, ?_, fun i hi => ?_⟩
    · rw [uI_s, List.length_append]; rfl
    · rw [List.length_append]; show tb.length + 1 ≤ 256; omega
    · rw [List.length_append] at hi
      have hi' : i < tb.length + 1 := hi
      show okN _ ∧ σa.2.2.2.1 (pR5 b) i = _ ∧ σa.2.2.2.1 (pR6 b) i = _ ∧ σa.2.2.1 (pR7 b) i = _ ∧ σa.2.2.1 (pR8 b) i = _ ∧ σa.2.2.1 (pR9 b) i = _ ∧ σa.2.2.1 (pR10 b) i = _
      rw [k4, r5, r6, r7, r8, r9, r10]
      by_cases z : i = tb.length
      · rw [z, gE_0]
        rw [if_pos rfl, if_pos rfl, if_pos rfl, if_pos rfl, if_pos rfl, if_pos rfl]
        exact ⟨hk, rfl, rfl, rfl, rfl, rfl, rfl⟩
      · rw [gE_l (by omega)]
        rw [if_neg z, if_neg z, if_neg z, if_neg z, if_neg z, if_neg z]
        exact t3 i (by omega)
/-- an entry is hidden, or seen -/
theorem TbQ_hd {i : Nat} {e1 : Ent} {hd : Bool} (h : TbR b tb σ) (hi : i < tb.length) (hn : nc ≤ i) (he : tb.getD i e0E = e1) : TbQ b nc (tb.set i (e1.1, e1.2.1, e1.2.2.1, e1.2.2.2.1, hd)) σ (uA σ (pR10 b) i (if hd = true then 1 else 0)) := by
  obtain ⟨t1, t2, t3⟩ := h
  have pc := pR_c b
  refine ⟨fun _ _ => rfl, rfl, fun k hk => uA_k (by omega), fun _ _ => rfl, rfl, fun j hj => ⟨⟨rfl, rfl⟩, ⟨by rw [uA_k (by omega)], by rw [uA_k (by omega)]⟩, by rw [uA_k (by omega)], by rw [uA_r, upd_other (by omega)]⟩, ?_⟩
  refine ⟨by rw [List.length_set]; exact t1, by rw [List.length_set]; exact t2, fun j hj => ?_⟩
  rw [List.length_set] at hj
  have gs : (tb.set i (e1.1, e1.2.1, e1.2.2.1, e1.2.2.2.1, hd)).getD j e0E = if j = i then (e1.1, e1.2.1, e1.2.2.1, e1.2.2.2.1, hd) else tb.getD j e0E := by
    by_cases z : j = i
    · rw [if_pos z, z, List.getD_eq_getElem?_getD, List.getElem?_set_self hi]; rfl
    · rw [if_neg z, List.getD_eq_getElem?_getD, List.getElem?_set_ne (by omega), List.getD_eq_getElem?_getD]
  rw [gs]
  obtain ⟨w1, w2, w3, w4, w5, w6, w7⟩ := t3 j hj
  rw [uA_k (by omega), uA_k (by omega), uA_k (by omega), uA_r]
  by_cases z : j = i
  · rw [if_pos z, z, upd_same]
    rw [z, he] at w1 w2 w3 w4 w5 w6
    exact ⟨w1, w2, w3, w4, w5, w6, rfl⟩
  · rw [if_neg z, upd_other z]
    exact ⟨w1, w2, w3, w4, w5, w6, w7⟩
/-- the newest names are taken back -/
theorem TbQ_tk (h : TbR b (tb ++ tb') σ) : TbQ b tb.length tb σ (uI σ (fP b 11) (nI tb.length)) := by
  obtain ⟨t1, t2, t3⟩ := h
  rw [List.length_append] at t2 t3
  refine ⟨fun j hj => uI_o hj, rfl, fun _ _ => rfl, fun _ _ => rfl, rfl, fun _ _ => ⟨⟨rfl, rfl⟩, ⟨rfl, rfl⟩, rfl, rfl⟩, uI_s, by omega, fun i hi => ?_⟩
  have z := t3 i (by omega)
  rw [gE_l hi] at z
  exact z
end CVQ
end JnS458
section JnS459
/-! The class: a name of an iter is told. -/
section CVR
variable {σ σ' σ0 τ τ' : CS} {L : LV} {b : Bool} {T : Nat → Int32} {n q q' u al o v mk p sz szB nc0 sz0 mk0 a1 a2 m kk f e t nc r0 : Nat} {y w : Int32} {l l' cs cs' : List Int32} {tb tb' : List Ent} {α : Type} {S : α → Int32 → CS → Prop} {x : Fl α} {C : Prop} {E : En} {gl : Nat × (Nat → Nat → Prop)} {Vm : Nat → Prop} {bt : BT}
/-! words have so many bytes -/
theorem wordF_i {s : List Int32} {k : Nat} (hk : k < 1000) : ∀ (f w : Nat), w + f < 1000 → wordF s f w = nI k → wdL.getD k [] = s
  | 0, w, _, h => by
    have h' : (-1 : Int32) = nI k := h
    have z := congrArg uN h'
    rw [u_n (by omega)] at z
    have : uN (-1 : Int32) = 4294967295 := by decide
    omega
  | f + 1, w, hw, h => by
    have h' : (if wdL.getD w [] = s then nI w else wordF s f (w + 1)) = nI k := h
    by_cases c : wdL.getD w [] = s
    · rw [if_pos c, n_eq (by omega) (by omega)] at h'
      rw [← h']; exact c
    · rw [if_neg c] at h'
      exact wordF_i hk f (w + 1) (by omega) h'
theorem tk_wd (hq : q ≤ n) (hk : 32 ≤ tkK T n q) : (wdL.getD (tkK T n q - 32) []).length = tkE T n q - q ∧ q < tkE T n q := by
  have hc : q < n ∧ (tokM 0 T n q).1 = 5 ∧ tkK T n q = 32 + (tokM 0 T n q).2.1.toNatClampNeg := by
    rcases tk_cases T n q hq with ⟨_, a, b⟩ | ⟨hl, ⟨a, b⟩ | ⟨a, b⟩ | ⟨a, b⟩ | ⟨a, b1, b2, b3⟩ | ⟨a, b1, b2, b3⟩ | ⟨a, b⟩⟩
    · omega
    · omega
    · omega
    · omega
    · omega
    · refine ⟨hl, a, ?_⟩
      unfold tkK tkc
      rw [a]
      rfl
    · omega
  obtain ⟨hl, a, ek⟩ := hc
  have n0 : ¬ q = n := by omega
  have eE : tkE T n q = (tokM 0 T n q).2.2 := rfl
  generalize hm : tokM 0 T n q = tm at *
  unfold tokM at hm
  rw [if_neg n0] at hm
  by_cases c : isL (rB T n q)
  · rw [if_pos c] at hm
    have e2 : tm.2.1 = wordI (seg T q (nameE T n (n + 1) q)) := by rw [← hm]
    have e3 : tm.2.2 = nameE T n (n + 1) q := by rw [← hm]
    have e1 : tm.1 = (if nameE T n (n + 1) q - q ≤ 16 then (if wordI (seg T q (nameE T n (n + 1) q)) = -1 then (1 : Int32) else 5) else 6) := by rw [← hm]
    have wn : ¬ wordI (seg T q (nameE T n (n + 1) q)) = -1 := by
      intro z
      rw [if_pos z, a] at e1
      split at e1 <;> exact absurd e1 (by decide)
    have g1 := nameE_ge T n n (q + 1)
    have gt : q < nameE T n (n + 1) q := by
      rw [nameE_step, if_pos (Or.inl c)]; omega
    -- its number
    have hw : ∀ (f w : Nat), w + f < 1000 → ¬ wordF (seg T q (nameE T n (n + 1) q)) f w = -1 → ∃ k, k < 1000 ∧ wordF (seg T q (nameE T n (n + 1) q)) f w = nI k := by
      intro f
      induction f with
      | zero => intro w _ z; exact absurd rfl z
      | succ f ih =>
        intro w h1 z
        have e4 : wordF (seg T q (nameE T n (n + 1) q)) (f + 1) w = (if wdL.getD w [] = seg T q (nameE T n (n + 1) q) then nI w else wordF (seg T q (nameE T n (n + 1) q)) f (w + 1)) := rfl
        rw [e4] at z ⊢
        by_cases c4 : wdL.getD w [] = seg T q (nameE T n (n + 1) q)
        · rw [if_pos c4]
          exact ⟨w, by omega, rfl⟩
        · rw [if_neg c4] at z ⊢
          exact ih (w + 1) (by omega) z
    obtain ⟨k, k1, k2⟩ := hw 53 0 (by decide) wn
    have e5 := wordF_i k1 53 0 (by decide) k2
    have e6 : tm.2.1 = nI k := by rw [e2]; exact k2
    rw [e6, n_cl (by omega)] at ek
    have e7 : tkK T n q - 32 = k := by omega
    rw [e7, e5, seg_len, eE, e3]
    exact ⟨rfl, gt⟩
  · exfalso
    rw [if_neg c] at hm
    by_cases c2 : isD (rB T n q)
    · rw [if_pos c2] at hm
      have a' : (if digE T n (n + 1) q - q ≤ 60 then (2 : Int32) else 6) = 5 := by rw [← a, ← hm]
      split at a' <;> exact absurd a' (by decide)
    · rw [if_neg c2] at hm
      by_cases c3 : rB T n q = 34
      · rw [if_pos c3] at hm
        have a' : (if (strE T n (n + 1) (q + 1) < n ∧ T (strE T n (n + 1) (q + 1)) = 34) ∧ strE T n (n + 1) (q + 1) - q - 1 ≤ 100 then (3 : Int32) else 6) = 5 := by rw [← a, ← hm]
        split at a' <;> exact absurd a' (by decide)
      · rw [if_neg c3] at hm
        have a' : (if signF (rB T n q) (rB T n (q + 1)) = 0 then (6 : Int32) else 4) = 5 := by rw [← a, ← hm]
        split at a' <;> exact absurd a' (by decide)
theorem tk_wl {k m : Nat} (h : QS T n b u al tb o q v mk p sz σ) (hk : tkK T n q = k) (h32 : 32 ≤ k) (hm : (wdL.getD (k - 32) []).length = m) : q + m ≤ tkN T n q := by
  have z := tk_wd (T := T) h.1.2.2.2.1 (by omega)
  rw [hk, hm] at z
  have := (tkN_b T n q h.1.2.2.2.1).2.2.1
  omega
/-- one variable more -/
theorem Sy_v (h : Sy T n b u al σ0 nc0 sz0 mk0 a1 a2 tb o q v mk p szB cs τ) (hv : v < 60) : Sy T n b u al σ0 nc0 sz0 mk0 a1 a2 tb o q (v + 1) mk p szB cs (uA τ (pR16 b) u (nI (v + 1))) := by
  have ph := Ph_s (σ := τ) (σ' := uA τ (pR16 b) u (nI (v + 1))) rfl
  obtain ⟨⟨hq, h2', h3, h4, h5, h6⟩, k2⟩ := h
  obtain ⟨h1, h2, h3', h4', ⟨h5', h5'', h5'''⟩, ⟨h6', h6''⟩, ⟨h7, h7'⟩, h8⟩ := hq
  have pc := pR_c b
  have m3 := h3'.2
  have cd : ∀ c i, cdr c (uA τ (pR16 b) u (nI (v + 1))) i = cdr c τ i := fun c i => by
    show (uA τ (pR16 b) u (nI (v + 1))).2.2.1 (pR0 (sKd τ c)) i = _
    rcases pR0_c (sKd τ c) with z | z
    · rw [uA_k (by omega)]
    · rw [uA_k (by omega)]
  have q1 : QS T n b u al tb o q (v + 1) mk p (szB + cs.length) (uA τ (pR16 b) u (nI (v + 1))) := ⟨LxQ_s h1 (fun _ _ _ => rfl) ⟨rfl, rfl⟩ (uA_k (by omega)) rfl rfl, CdL_s h2 rfl rfl ⟨rfl, rfl⟩, h3', TbR_s h4' rfl rfl rfl (uA_k (by omega)) (uA_k (by omega)) (uA_k (by omega)) (uA_k (by omega)), ⟨h5', h5'', h5'''⟩, ⟨h6', h6''⟩, ⟨by rw [uA_r, upd_same], by omega⟩, h8⟩
  have q2 : XK b u tb.length (szB + cs.length) mk τ (uA τ (pR16 b) u (nI (v + 1))) := ⟨⟨fun _ _ => rfl, fun _ _ => rfl⟩, ⟨fun k hk => uA_k (by omega), fun _ _ => rfl, fun _ _ => rfl⟩, ⟨⟨rfl, rfl, rfl, rfl⟩, fun _ _ => rfl, rfl⟩, fun i hi => by rw [uA_r, upd_other hi], fun i _ => ⟨⟨rfl, rfl⟩, ⟨by rw [uA_k (by omega)], by rw [uA_k (by omega)]⟩, by rw [uA_k (by omega)], by rw [uA_k (by omega)]⟩, fun i _ => ⟨cd b i, cd (!b) i⟩, fun i _ => by rw [uA_k (by omega)], (CdL_s (σ' := uA τ (pR16 b) u (nI (v + 1))) h2 rfl rfl ⟨rfl, rfl⟩).2, m3⟩
  refine ⟨⟨q1, XK_t h2' q2 h4 h5 h6, ⟨by omega, by omega⟩, h4, h5, h6⟩, fun i hi => ?_⟩
  rw [cd]
  exact k2 i hi
theorem uA_self {k i : Nat} : uA σ k i (σ.2.2.1 k i + 0) = σ := by
  have e1 : upd (σ.2.2.1 k) i (σ.2.2.1 k i + 0) = σ.2.2.1 k := by
    funext j
    by_cases z : j = i
    · rw [z, upd_same, Int32.add_zero]
    · rw [upd_other z]
  show (σ.1, σ.2.1, updG σ.2.2.1 k (upd (σ.2.2.1 k) i (σ.2.2.1 k i + 0)), σ.2.2.2) = σ
  rw [e1]
  have e2 : updG σ.2.2.1 k (σ.2.2.1 k) = σ.2.2.1 := by
    funext j
    by_cases z : j = k
    · rw [z, updG_same]
    · rw [updG_other z]
  rw [e2]
/-- slots of iters are taken -/
theorem Sy_p {p' : Nat} (h : Sy T n b u al σ0 nc0 sz0 mk0 a1 a2 tb o q v mk p szB cs τ) : Sy T n b u al σ0 nc0 sz0 mk0 a1 a2 tb o q v mk p' szB cs (uI τ (fP b 19) (nI p')) := by
  have fc := fP_c b 19
  exact ⟨Sx_f h.1 (fun j hj => uI_o (by omega)) rfl (by rw [uI_o (by omega)]; exact h.1.1.2.2.2.2.2.1.1) h.1.1.2.2.2.2.2.1.2 (by rw [uI_o (by omega)]; exact h.1.1.2.2.1.1) (Nat.le_refl _) h.1.2.2.2.2.2 uI_s, h.2⟩
theorem c_newPassing {k0 : Nat} (h : Sy T n b u al σ0 nc0 sz0 mk0 a1 a2 tb o q v mk p szB cs τ) (hp : p + k0 < 2147483648) (hb : L.2.2.1 0 = b) (h1 : L.1 1 = nI k0) : Tm (fun k => y_X7_newPassing__P k 0 L τ) (fun r => r.1 = nI p ∧ Sy T n b u al σ0 nc0 sz0 mk0 a1 a2 tb o q v mk (p + k0) szB cs r.2) := by
  refine Tm_suc (fun k => by rw [y_X7_newPassing__P]) ?_
  have e8 : τ.1 (fP b 19) = nI p := h.1.1.2.2.2.2.2.2.2
  rw [hb, e8, h1, n_add hp, uI_s, n_sub (by omega) (by omega)]
  exact Tm_some ⟨congrArg nI (by omega), Sy_p h⟩
/-- the fault where a name may not be told -/
def CkF (T : Nat → Int32) (n : Nat) (tb : List Ent) (r0 q v : Nat) (y : Nat × Nat) : Prop := (¬ tkK T n q = 26 ∧ y = (2, q)) ∨ (tkK T n q = 26 ∧ ¬ (∀ j, r0 ≤ j → j < tb.length → ¬ (tb.getD j e0E).1 = tkS T n q) ∧ y = (4, q)) ∨ (tkK T n q = 26 ∧ (∀ j, r0 ≤ j → j < tb.length → ¬ (tb.getD j e0E).1 = tkS T n q) ∧ v = 60 ∧ y = (8, q))
theorem st_chk {f' : Nat → RS → Option RS} (h : Sy T n b u al σ0 nc0 sz0 mk0 a1 a2 tb o q v mk p szB cs τ) (hu : u < 42) (h1 : L.1 1 = nI r0) (hr : r0 ≤ tb.length) (hx : (∃ y, CkF T n tb r0 q v y ∧ x = Sum.inl y) ∨ ((tkK T n q = 26 ∧ (∀ j, r0 ≤ j → j < tb.length → ¬ (tb.getD j e0E).1 = tkS T n q) ∧ ¬ v = 60) ∧ C)) (cont : ∀ (τ' : CS) (ret : Int32) (n1 n2 : Nat), C → Sy T n b u al σ0 nc0 sz0 mk0 (a1 + n1) (a2 + n2) tb o q (v + 1) mk p szB cs τ' → Tm (fun k => f' k ((0, ret), τ', (n1, n2))) (QPo b u nc0 sz0 mk0 x S σ0 (a1 + n1) (a2 + n2))) : Tm (fun k => ox (f_X5_checkName k 0 L τ) (f' k)) (QPo b u nc0 sz0 mk0 x S σ0 a1 a2) := by
  have s0 := Sy_0 h.1.1
  have e3 : τ.1 4003 = nI u := h.1.1.2.2.2.2.1.2.1
  have i42 : ¬ (nI u < 0 ∨ 42 ≤ (nI u).toNatClampNeg) := u_in (by rw [u_n (by omega)]; omega) (by decide)
  have e7 := h.1.1.2.2.2.2.2.2.1
  -- the method by itself
  have t : ∀ z : Fl Unit, ((∃ y, CkF T n tb r0 q v y ∧ z = Sum.inl y) ∨ ((tkK T n q = 26 ∧ (∀ j, r0 ≤ j → j < tb.length → ¬ (tb.getD j e0E).1 = tkS T n q) ∧ ¬ v = 60) ∧ z = Sum.inr ())) → Tm (fun k => f_X5_checkName k 0 L τ) (QPo b u tb.length (szB + cs.length) mk z (fun _ _ τ' => QS T n b u al tb o q (v + 1) mk p (szB + cs.length) τ') τ 0 0) := by
    intro z hz
    refine Tm_suc (fun k => by rw [f_X5_checkName]) ?_
    by_cases k26 : tkK T n q = 26
    · have okn : okN (tkS T n q) := (s0.1.1.1.2.2.2.2.2.2.2.2 k26).2
      have ky := (s0.1.1.1.2.2.2.2.2.2.2.2 k26).1
      refine Tm_yes ((lx_k (kk := 26) s0.1.1 (by decide)).2 k26) ?_
      refine Tm_suc (fun k => by rw [f_X5_checkName]) ?_
      refine Tm_oP (Sy_pp s0) ?_
      refine Tm_op (c_toldFrom (r0 := r0) (bs := tkS T n q) s0.1.1.2.2.2.1 rfl okn ky.1 ky.2 h1 hr) (fun r2 z2 => ?_)
      obtain ⟨e2, f2⟩ := z2
      rw [e2]
      by_cases kt : ∀ j, r0 ≤ j → j < tb.length → ¬ (tb.getD j e0E).1 = tkS T n q
      · refine Tm_yes (f2.2 kt) ?_
        refine Tm_suc (fun k => by rw [f_X5_checkName]) ?_
        refine Tm_oP (Sy_pp s0) ?_
        rw [e3]
        refine Tm_chk i42 ?_
        rw [n_cl (p := u) (by omega), e7.1]
        by_cases v60 : v = 60
        · refine Tm_no (by show ¬ nI v < nI 60; rw [n_lt (by omega) (by decide)]; omega) ?_
          have zn : z = Sum.inl (8, q) := by
            rcases hz with ⟨y, w1, w2⟩ | w
            · rcases w1 with ⟨a, _⟩ | ⟨_, a, _⟩ | ⟨_, _, _, a⟩
              · exact absurd k26 a
              · exact absurd kt a
              · rw [w2, a]
            · exact absurd v60 w.1.2.2
          rw [zn]
          exact st_ref s0.1 rfl (lx_3 s0.1.1) (by decide)
        · refine Tm_yes (by show nI v < nI 60; rw [n_lt (by omega) (by decide)]; omega) ?_
          have zs : z = Sum.inr () := by
            rcases hz with ⟨y, w1, w2⟩ | w
            · rcases w1 with ⟨a, _⟩ | ⟨_, a, _⟩ | ⟨_, _, a, _⟩
              · exact absurd k26 a
              · exact absurd kt a
              · exact absurd a v60
            · exact w.2
          rw [zs]
          refine Tm_suc (fun k => by rw [f_X5_checkName]) ?_
          refine Tm_oP (Sy_pp s0) ?_
          rw [e3]
          refine Tm_chk i42 (Tm_chk i42 ?_)
          rw [n_cl (p := u) (by omega), e7.1, n_add1]
          have s1 := Sy_v s0 (by omega)
          exact Tm_some (Qfin s1.1 s1.1.1)
      · refine Tm_no (fun w => kt (f2.1 w)) ?_
        have zn : z = Sum.inl (4, q) := by
          rcases hz with ⟨y, w1, w2⟩ | w
          · rcases w1 with ⟨a, _⟩ | ⟨_, _, a⟩ | ⟨_, a, _⟩
            · exact absurd k26 a
            · rw [w2, a]
            · exact absurd a kt
          · exact absurd w.1.2.1 kt
        rw [zn]
        exact st_ref s0.1 rfl (lx_3 s0.1.1) (by decide)
    · refine Tm_no (fun w => k26 ((lx_k (kk := 26) s0.1.1 (by decide)).1 w)) ?_
      have zn : z = Sum.inl (2, q) := by
        rcases hz with ⟨y, w1, w2⟩ | w
        · rcases w1 with ⟨_, a⟩ | ⟨a, _⟩ | ⟨a, _⟩
          · rw [w2, a]
          · exact absurd a k26
          · exact absurd a k26
        · exact absurd w.1.1 k26
      rw [zn]
      exact st_ref s0.1 rfl (lx_3 s0.1.1) (by decide)
  rcases hx with ⟨y0, w1, w2⟩ | ⟨w1, c⟩
  · exact st_call (C := True) h.1 (t (Sum.inl y0) (Or.inl ⟨y0, w1, rfl⟩)) (Or.inl ⟨_, rfl, w2⟩)
  · exact st_call (C := C) h.1 (t (Sum.inr ()) (Or.inr ⟨w1, rfl⟩)) (Or.inr ⟨_, rfl, c, fun τ' ret n1 n2 hq xk hc => cont τ' ret n1 n2 c (Sy_c0 h hq xk hc h.1.2.2.2.1 h.1.2.2.2.2.2)⟩)
end CVR
end JnS459
section JnS460
/-! The class: names of an iter are told. -/
section CVS
variable {σ σ' σ0 τ τ' : CS} {L : LV} {b : Bool} {T : Nat → Int32} {n q q' u al o v mk p sz szB nc0 sz0 mk0 a1 a2 m kk f e t nc r0 c g : Nat} {y w : Int32} {l l' cs cs' : List Int32} {tb tb' : List Ent} {α : Type} {S : α → Int32 → CS → Prop} {x : Fl α} {C : Prop} {E : En} {gl : Nat × (Nat → Nat → Prop)} {Vm : Nat → Prop} {bt : BT}
/-- a name may be told here -/
def NmG (T : Nat → Int32) (n : Nat) (tb : List Ent) (r0 q v : Nat) : Prop := tkK T n q = 26 ∧ (∀ j, r0 ≤ j → j < tb.length → ¬ (tb.getD j e0E).1 = tkS T n q) ∧ ¬ v = 60 ∧ ¬ tkK T n (tkN T n q) = 0
/-- the fault where a name, or the token behind it, may not stand -/
def NmQF (T : Nat → Int32) (n : Nat) (tb : List Ent) (r0 q v : Nat) (y : Nat × Nat) : Prop := CkF T n tb r0 q v y ∨ (tkK T n q = 26 ∧ (∀ j, r0 ≤ j → j < tb.length → ¬ (tb.getD j e0E).1 = tkS T n q) ∧ ¬ v = 60) ∧ tkK T n (tkN T n q) = 0 ∧ y = (1, tkN T n q)
theorem NmQF_no {y : Nat × Nat} (h : NmQF T n tb r0 q v y) (g : NmG T n tb r0 q v) : False := by
  rcases h with (⟨a, _⟩ | ⟨_, a, _⟩ | ⟨_, _, a, _⟩) | ⟨_, a, _⟩
  · exact a g.1
  · exact a g.2.1
  · exact g.2.2.1 a
  · exact g.2.2.2 a
theorem st_name (h : Sy T n b u al σ0 nc0 sz0 mk0 a1 a2 tb o q v mk p szB cs τ) (hu : u < 42) (hl : v < 60 → tb.length < 256) (hp : p ≤ 1000) (l1 : L.1 1 = nI r0) (hr : r0 ≤ tb.length) (l3 : L.1 3 = 0) (l4 : L.1 4 = 1) (l5 : uN (L.1 5) ≤ 60) (hx : (∃ y, NmQF T n tb r0 q v y ∧ x = Sum.inl y) ∨ (NmG T n tb r0 q v ∧ C)) (cont : ∀ (L' : LV) (τ' : CS) (m1 m2 : Nat), C → tkK T n q = 26 → L'.1 1 = L.1 1 → L'.1 2 = L.1 2 → L'.1 3 = 0 → L'.1 5 = L.1 5 → Sy T n b u al σ0 nc0 sz0 mk0 (a1 + m1) (a2 + m2) (tb ++ [(tkS T n q, 3, u, p, true)]) o (tkN T n q) (v + 1) mk (p + 1) szB cs τ' → Tm (fun k => if L'.1 2 = 0 then f_X5_iterNames k 11 L' τ' else if τ'.1 3702 = 16 then f_X5_iterNames k 12 (lI L' 100 1) τ' else f_X5_iterNames k 11 L' τ') (QPo b u nc0 sz0 mk0 x S σ0 (a1 + m1) (a2 + m2))) : Tm (fun k => f_X5_iterNames k 2 L τ) (QPo b u nc0 sz0 mk0 x S σ0 a1 a2) := by
  have e3 : τ.1 4003 = nI u := h.1.1.2.2.2.2.1.2.1
  have i42 : ¬ (nI u < 0 ∨ 42 ≤ (nI u).toNatClampNeg) := u_in (by rw [u_n (by omega)]; omega) (by decide)
  refine Tm_suc (fun k => by rw [f_X5_iterNames]) ?_
  refine Tm_no (by rw [u_ltn (by decide) (by omega)]; show ¬ 60 < uN (L.1 5); omega) ?_
  refine Tm_no (by rw [l4]; decide) ?_
  have hx2 : (∃ y, CkF T n tb r0 q v y ∧ x = Sum.inl y) ∨ ((tkK T n q = 26 ∧ (∀ j, r0 ≤ j → j < tb.length → ¬ (tb.getD j e0E).1 = tkS T n q) ∧ ¬ v = 60) ∧ (tkK T n q = 26 ∧ (¬ v = 60) ∧ ((tkK T n (tkN T n q) = 0 ∧ x = Sum.inl (1, tkN T n q)) ∨ (¬ tkK T n (tkN T n q) = 0 ∧ C)))) := by
    rcases hx with ⟨y, w1 | ⟨w1, w3, w4⟩, w2⟩ | ⟨w1, w2⟩
    · exact Or.inl ⟨y, w1, w2⟩
    · exact Or.inr ⟨w1, w1.1, w1.2.2, Or.inl ⟨w3, by rw [w2, w4]⟩⟩
    · exact Or.inr ⟨⟨w1.1, w1.2.1, w1.2.2.1⟩, w1.1, w1.2.2.1, Or.inr ⟨w1.2.2.2, w2⟩⟩
  refine st_chk h hu l1 hr hx2 (fun τ1 ret1 m1 m2 c1 s1 => ?_)
  obtain ⟨k26, v60, c1⟩ := c1
  have hl := hl (by have := h.1.1.2.2.2.2.2.2.1.2; omega)
  have e31 : τ1.1 4003 = nI u := s1.1.1.2.2.2.2.1.2.1
  refine Tm_oP (Sy_pp s1) ?_
  show Tm (fun k => if ¬ (τ1.1 4003 < 0 ∨ 42 ≤ (τ1.1 4003).toNatClampNeg) then _ else none) _
  rw [e31]
  refine Tm_chk i42 ?_
  refine Tm_yes l3 ?_
  refine Tm_suc (fun k => by rw [f_X5_iterNames]) ?_
  refine Tm_suc (fun k => by rw [f_X5_iterNames]) ?_
  refine Tm_chk i42 ?_
  refine Tm_yes l3 ?_
  show Tm (fun k => f_X5_iterNames k 7 _ (uA τ1 (pR17 b) (nI u).toNatClampNeg (τ1.2.2.1 (pR17 b) (nI u).toNatClampNeg + 0))) _
  rw [uA_self]
  refine Tm_suc (fun k => by rw [f_X5_iterNames]) ?_
  refine Tm_oP (Sy_pp s1) ?_
  refine Tm_op (c_newPassing (k0 := 1) s1 (by omega) rfl rfl) (fun r2 z2 => ?_)
  obtain ⟨er2, s2⟩ := z2
  refine Tm_suc (fun k => by rw [f_X5_iterNames]) ?_
  refine Tm_oP (Sy_pp s2) ?_
  refine Tm_yes l3 ?_
  refine Tm_suc (fun k => by rw [f_X5_iterNames]) ?_
  refine Tm_suc (fun k => by rw [f_X5_iterNames]) ?_
  have okn : okN (tkS T n q) := (s2.1.1.1.2.2.2.2.2.2.2.2 k26).2
  have ky := (s2.1.1.1.2.2.2.2.2.2.2.2 k26).1
  refine Tm_op (c_tell (bs := tkS T n q) (w0 := 3) (o0 := u) (s0 := p) s2.1.1.2.2.2.1 hl rfl okn ky.1 ky.2 rfl s2.1.1.2.2.2.2.1.2.1 er2) (fun r3 z3 => ?_)
  have nc := h.1.2.2.2.1
  have s3 := Sy_tb s2 z3 nc (by rw [List.length_append]; omega)
  refine Tm_oP (Sy_pp s3) (Tm_oP (Sy_pp s3) ?_)
  have e11 : r3.2.1 (fP b 11) - 1 = nI tb.length := by
    rw [s3.1.1.2.2.2.1.1, List.length_append]
    exact n_sub1 (by omega)
  rw [e11]
  refine Tm_chk (u_in (by rw [u_n (by omega)]; omega) (by decide)) ?_
  rw [n_cl (p := tb.length) (by omega), show vp_nar .boolean 1 = (1 : Int32) from rfl]
  have ho : TbQ b tb.length ((tb ++ [(tkS T n q, 3, u, p, false)]).set tb.length (tkS T n q, 3, u, p, true)) r3.2 (uA r3.2 (pR10 b) tb.length 1) := TbQ_hd (e1 := (tkS T n q, 3, u, p, false)) (hd := true) s3.1.1.2.2.2.1 (by rw [List.length_append]; show tb.length < tb.length + 1; omega) (Nat.le_refl _) gE_0
  have es : (tb ++ [(tkS T n q, 3, u, p, false)]).set tb.length (tkS T n q, 3, u, p, true) = tb ++ [(tkS T n q, 3, u, p, true)] := by
    rw [List.set_append_right _ _ (Nat.le_refl _), Nat.sub_self]; rfl
  rw [es] at ho
  have s4 := Sy_tb s3 ho nc (by rw [List.length_append]; omega)
  refine st_advY s4 c1 (fun τ5 r5 er c5 s5 => ?_)
  rw [er]
  exact cont _ τ5 _ _ c5 k26 rfl rfl l3 rfl s5
end CVS
end JnS460
section JnS461
/-! The class: names of an iter, as the reference reads them. -/
section CVT
variable {σ σ' σ0 τ τ' : CS} {L : LV} {b : Bool} {T : Nat → Int32} {n q q' u al o v mk p sz szB nc0 sz0 mk0 a1 a2 m kk f e t nc r0 c g : Nat} {y w : Int32} {l l' cs cs' : List Int32} {tb tb' es : List Ent} {ns : List Nm} {α : Type} {S : α → Int32 → CS → Prop} {C : Prop} {E : En} {gl : Nat × (Nat → Nat → Prop)} {Vm Vm' : Nat → Prop} {bt : BT} {hd : Bool}
theorem fs_m {l : List Nm} {bs : List Int32} : (l.find? (fun x => decide (x.1 = bs))).isSome = true ↔ ∃ x, x ∈ l ∧ x.1 = bs := by
  rw [List.find?_isSome]
  constructor
  · rintro ⟨x, h1, h2⟩
    exact ⟨x, h1, of_decide_eq_true h2⟩
  · rintro ⟨x, h1, h2⟩
    exact ⟨x, h1, decide_eq_true h2⟩
/-- names of the row, here and there -/
def RwE (E : En) (c : Nat) (tb : List Ent) (r0 : Nat) : Prop := c ≤ E.2.2.1.length ∧ ∀ bs, (∃ nm, nm ∈ E.2.2.1.take (E.2.2.1.length - c) ∧ nm.1 = bs) ↔ ∃ j, r0 ≤ j ∧ j < tb.length ∧ (tb.getD j e0E).1 = bs
/-- names told, here and there -/
def NsR (u p : Nat) (hd : Bool) (es : List Ent) (ns : List Nm) : Prop := (∀ i, i < es.length → (es.getD i e0E).2 = (3, u, p + i, hd)) ∧ ∀ bs, (∃ nm, nm ∈ ns ∧ nm.1 = bs) ↔ ∃ i, i < es.length ∧ (es.getD i e0E).1 = bs
theorem NsR_nil (u p : Nat) (hd : Bool) : NsR u p hd [] [] := by
  refine ⟨fun i hi => absurd hi (Nat.not_lt_zero _), fun bs => ⟨fun z => ?_, fun z => ?_⟩⟩
  · obtain ⟨nm, z1, z2⟩ := z
    cases z1
  · obtain ⟨i, z1, z2⟩ := z
    exact absurd z1 (Nat.not_lt_zero _)
theorem NsR_ad {bs : List Int32} {pl sl : Nat} (h : NsR u p hd es ns) : NsR u p hd (es ++ [(bs, 3, u, p + es.length, hd)]) ((bs, pl, sl) :: ns) := by
  obtain ⟨h1, h2⟩ := h
  refine ⟨fun i hi => ?_, fun bs' => ?_⟩
  · rw [List.length_append] at hi
    have hi' : i < es.length + 1 := hi
    by_cases z : i = es.length
    · rw [z, gE_0]
    · rw [gE_l (by omega)]
      exact h1 i (by omega)
  · rw [List.length_append]
    constructor
    · rintro ⟨nm, m1, m2⟩
      rcases List.mem_cons.1 m1 with z | z
      · refine ⟨es.length, by show es.length < es.length + 1; omega, ?_⟩
        rw [gE_0, ← m2, z]
      · obtain ⟨i, i1, i2⟩ := (h2 bs').1 ⟨nm, z, m2⟩
        exact ⟨i, by show i < es.length + 1; omega, by rw [gE_l i1]; exact i2⟩
    · rintro ⟨i, i1, i2⟩
      have i1' : i < es.length + 1 := i1
      by_cases z : i = es.length
      · rw [z, gE_0] at i2
        exact ⟨_, List.mem_cons_self, i2⟩
      · rw [gE_l (by omega)] at i2
        obtain ⟨nm, m1, m2⟩ := (h2 bs').2 ⟨i, by omega, i2⟩
        exact ⟨nm, List.mem_cons_of_mem _ m1, m2⟩
theorem RwE_ns (h : RwE E c tb r0) (hr : r0 ≤ tb.length) (k : NsR u p hd es ns) : RwE (rowN E ns) c (tb ++ es) r0 := by
  obtain ⟨h1, h2⟩ := h
  have el : (rowN E ns).2.2.1 = ns ++ E.2.2.1 := rfl
  refine ⟨by rw [el, List.length_append]; omega, fun bs => ?_⟩
  have et : (rowN E ns).2.2.1.take ((rowN E ns).2.2.1.length - c) = ns ++ E.2.2.1.take (E.2.2.1.length - c) := by
    rw [el, List.length_append, show ns.length + E.2.2.1.length - c = ns.length + (E.2.2.1.length - c) by omega, List.take_length_add_append]
  rw [et, List.length_append]
  constructor
  · rintro ⟨nm, m1, m2⟩
    rcases List.mem_append.1 m1 with z | z
    · obtain ⟨i, i1, i2⟩ := (k.2 bs).1 ⟨nm, z, m2⟩
      exact ⟨tb.length + i, by omega, by omega, by rw [gE_r]; exact i2⟩
    · obtain ⟨j, j1, j2, j3⟩ := (h2 bs).1 ⟨nm, z, m2⟩
      exact ⟨j, j1, by omega, by rw [gE_l j2]; exact j3⟩
  · rintro ⟨j, j1, j2, j3⟩
    rcases Nat.lt_or_ge j tb.length with z | z
    · rw [gE_l z] at j3
      obtain ⟨nm, m1, m2⟩ := (h2 bs).2 ⟨j, j1, z, j3⟩
      exact ⟨nm, List.mem_append_right _ m1, m2⟩
    · have e1 : j = tb.length + (j - tb.length) := by omega
      rw [e1, gE_r] at j3
      obtain ⟨nm, m1, m2⟩ := (k.2 bs).2 ⟨j - tb.length, by omega, j3⟩
      exact ⟨nm, List.mem_append_left _ m1, m2⟩
theorem gN_a {k : Nat → Nat → Nat → BT → Nm → RG} {y : Fl RT} (rw0 : RwE E c tb r0) (h : gN T n E c g q v bt k = some y) : (∃ yf, NmQF T n tb r0 q v yf ∧ y = Sum.inl yf) ∨ (NmG T n tb r0 q v ∧ ∃ (e2 : Nat) (b2 : BT) (pl : Nat), k (tkN T n q) (v + 1) e2 b2 (tkS T n q, pl, v) = some y) := by
  unfold gN at h
  by_cases k26 : tkK T n q = 26
  · rw [if_pos k26] at h
    by_cases tl : ((E.2.2.1.take (E.2.2.1.length - c)).find? (fun x => decide (x.1 = tkS T n q))).isSome = true
    · rw [if_pos tl] at h
      refine Or.inl ⟨_, Or.inl (Or.inr (Or.inl ⟨k26, fun z => ?_, rfl⟩)), (Option.some.inj h).symm⟩
      obtain ⟨j, j1, j2, j3⟩ := (rw0.2 _).1 (fs_m.1 tl)
      exact z j j1 j2 j3
    · rw [if_neg tl] at h
      have nt : ∀ j, r0 ≤ j → j < tb.length → ¬ (tb.getD j e0E).1 = tkS T n q := fun j j1 j2 j3 => tl (fs_m.2 ((rw0.2 _).2 ⟨j, j1, j2, j3⟩))
      by_cases v60 : v = 60
      · rw [if_pos v60] at h
        exact Or.inl ⟨_, Or.inl (Or.inr (Or.inr ⟨k26, nt, v60, rfl⟩)), (Option.some.inj h).symm⟩
      · rw [if_neg v60] at h
        rcases gT_any h with ⟨w1, w2⟩ | ⟨w1, w2⟩
        · exact Or.inl ⟨_, Or.inr ⟨⟨k26, nt, v60⟩, w1, rfl⟩, w2⟩
        · refine Or.inr ⟨⟨k26, nt, v60, w1⟩, _, _, _, w2⟩
  · rw [if_neg k26] at h
    exact Or.inl ⟨_, Or.inl (Or.inl ⟨k26, rfl⟩), (Option.some.inj h).symm⟩
theorem gb_gN (k : Nat → Nat → Nat → BT → Nm → RG) (k' : RT → RG) : gb (gN T n E c g q v bt k) k' = gN T n E c g q v bt (fun q1 v1 e1 b1 nm => gb (k q1 v1 e1 b1 nm) k') := by
  unfold gN
  by_cases k26 : tkK T n q = 26
  · rw [if_pos k26, if_pos k26]
    by_cases tl : ((E.2.2.1.take (E.2.2.1.length - c)).find? (fun x => decide (x.1 = tkS T n q))).isSome = true
    · rw [if_pos tl, if_pos tl]; rfl
    · rw [if_neg tl, if_neg tl]
      by_cases v60 : v = 60
      · rw [if_pos v60, if_pos v60]; rfl
      · rw [if_neg v60, if_neg v60, gb_gT]
  · rw [if_neg k26, if_neg k26]; rfl
/-- the names of an iter, as the reference reads them: behind them, variables, whether it is a pattern, the node, the names -/
def gIn (T : Nat → Int32) (n f : Nat) (E : En) (o c g q v : Nat) (b : BT) : RG := if tkK T n q = 10 then gO o q (gT T n q (fun q1 => gN T n E c g q1 v b (fun q2 v2 e2 b2 nm => gb (G T n f 18 (rowN E [nm]) (o + 1) q2 v2 0 e2 c g b2) (fun r => gW T n 11 r.1 (fun q3 => some (Sum.inr (q3, r.2.1, 1, e2, r.2.2.2.2.1, r.2.2.2.2.2 ++ [nm]))))))) else gN T n E c g q v b (fun q1 v1 e1 b1 nm => some (Sum.inr (q1, v1, 0, e1, b1, [nm])))
/-- behind the names -/
def INR (T : Nat → Int32) (n : Nat) (b : Bool) (u al : Nat) (tb : List Ent) (o mk p sz q v : Nat) (r : RT) (τ : CS) : Prop := ∃ es : List Ent, 1 ≤ es.length ∧ QS T n b u al (tb ++ es) o r.1 r.2.1 mk (p + es.length) sz τ ∧ NsR u p true es r.2.2.2.2.2 ∧ r.2.1 = v + es.length ∧ q + 1 + 2 * r.2.2.1 ≤ r.1 ∧ ((r.2.2.1 = 0 ∧ es.length = 1 ∧ ¬ tkK T n q = 10) ∨ (r.2.2.1 = 1 ∧ tkK T n q = 10))
theorem c_iterNames {x : Fl RT} (h : QS T n b u al tb o q v mk p sz σ) (hu : u < 42) (hl : tb.length + (60 - v) ≤ 256) (hp : p ≤ 180) (l1 : L.1 1 = nI r0) (hr : r0 ≤ tb.length) (l2 : (tkK T n q = 10 → L.1 2 = 1) ∧ (¬ tkK T n q = 10 → L.1 2 = 0)) (l3 : L.1 3 = 0) (rw0 : RwE E c tb r0) (hG : gIn T n f E o c g q v bt = some x) : Tm (fun k => f_X5_iterNames k 0 L σ) (QPo b u tb.length sz mk x (fun r _ τ => INR T n b u al tb o mk p sz q v r τ) σ 0 0) := by
  have s0 := Sy_0 h
  have go := tk_go h
  have v60 := s0.1.1.2.2.2.2.2.2.1.2
  have nil0 : NsR u p true [] [] := NsR_nil u p true
  unfold gIn at hG
  by_cases k10 : tkK T n q = 10
  · rw [if_pos k10] at hG
    have g1 := go.2.2 (by omega)
    have l2' := l2.1 k10
    -- from behind a name on
    have lp : ∀ (f1 : Nat) (K : RT → RG) (E1 : En) (e2 : Nat), ∀ (L' : LV) (τ : CS) (a1 a2 q1 v1 i1 e1 : Nat) (bt1 : BT) (es : List Ent) (ns : List Nm), gb (G T n f1 18 E1 (o + 1) q1 v1 i1 e1 c g bt1) K = some x → (∀ (q v : Nat) (bt : BT) (rs : List Nm), K (q, v, 0, 0, bt, rs) = gW T n 11 q (fun q3 => some (Sum.inr (q3, v, 1, e2, bt, rs ++ ns)))) → L'.1 1 = nI r0 → L'.1 2 = 1 → L'.1 3 = 0 → 1 ≤ es.length → L'.1 5 = nI (es.length - 1) → Sy T n b u al σ tb.length sz mk a1 a2 (tb ++ es) (o + 1) q1 v1 mk (p + es.length) sz [] τ → NsR u p true es ns → RwE E1 c (tb ++ es) r0 → v1 = v + es.length → q + 2 ≤ q1 → Tm (fun k => if L'.1 2 = 0 then f_X5_iterNames k 11 L' τ else if τ.1 3702 = 16 then f_X5_iterNames k 12 (lI L' 100 1) τ else f_X5_iterNames k 11 L' τ) (QPo b u tb.length sz mk x (fun r _ τ => INR T n b u al tb o mk p sz q v r τ) σ a1 a2) := by
      intro f1
      induction f1 with
      | zero =>
        intro K E1 e2 L' τ a1 a2 q1 v1 i1 e1 bt1 es ns hg
        exact absurd hg (by intro z; cases z)
      | succ f1 ih =>
        intro K E1 e2 L' τ a1 a2 q1 v1 i1 e1 bt1 es ns hg hK l1 l2 l3 le1 l5 s1 nr rw1 ev lq
        have go1 := tk_go s1.1.1
        have vv := s1.1.1.2.2.2.2.2.2.1.2
        have e18 : G T n (f1 + 1) 18 E1 (o + 1) q1 v1 i1 e1 c g bt1 = (if tkK T n q1 = 12 then gT T n q1 (fun q1 => gN T n E1 c g q1 v1 bt1 (fun q2 v2 e2 b2 nm => gb (G T n f1 18 (rowN E1 [nm]) (o + 1) q2 v2 0 e2 c g (bSet b2 9 e1 (nI e2))) (fun r => some (Sum.inr (r.1, r.2.1, 0, 0, r.2.2.2.2.1, r.2.2.2.2.2 ++ [nm]))))) else some (Sum.inr (q1, v1, 0, 0, bt1, []))) := rfl
        rw [e18] at hg
        have la : (tb ++ es).length = tb.length + es.length := List.length_append
        refine Tm_no (by rw [l2]; decide) ?_
        by_cases k12 : tkK T n q1 = 12
        · rw [if_pos k12, gb_gT] at hg
          simp only [gb_gN, gb_gb] at hg
          have g2 := go1.2.2 (by omega)
          refine Tm_yes ((lx_k (kk := 12) s1.1.1 (by decide)).2 k12) ?_
          refine Tm_suc (fun k => by rw [f_X5_iterNames]) ?_
          refine Tm_no (by show ¬ (1 : Int32) = 0; decide) ?_
          refine st_advY s1 (gT_any hg) (fun τ2 r2 er c2 s2 => ?_)
          rw [er]
          refine Tm_suc (fun k => by rw [f_X5_iterNames]) ?_
          have go2 := tk_go s2.1.1
          refine st_name (r0 := r0) s2 hu (fun z => by rw [la]; omega) (by omega) l1 (by rw [la]; omega) l3 rfl ?_ (gN_a rw1 c2) (fun L3 τ3 m1 m2 c3 k26 y1 y2 y3 y5 s3 => ?_)
          · show uN (L'.1 5 + 1) ≤ 60
            rw [l5, n_add1, u_n (by omega)]
            omega
          · obtain ⟨e3, b3, pl, c3⟩ := c3
            have ea : tb ++ es ++ [(tkS T n (tkN T n q1), 3, u, p + es.length, true)] = tb ++ (es ++ [(tkS T n (tkN T n q1), 3, u, p + es.length, true)]) := List.append_assoc _ _ _
            have lb : (es ++ [(tkS T n (tkN T n q1), 3, u, p + es.length, true)]).length = es.length + 1 := List.length_append
            rw [ea] at s3
            have nr2 := NsR_ad (bs := tkS T n (tkN T n q1)) (pl := pl) (sl := v1) nr
            have rw2 : RwE (rowN E1 [(tkS T n (tkN T n q1), pl, v1)]) c (tb ++ (es ++ [(tkS T n (tkN T n q1), 3, u, p + es.length, true)])) r0 := by
              rw [← ea]
              have nr1 := NsR_ad (u := u) (p := p + es.length) (bs := tkS T n (tkN T n q1)) (pl := pl) (sl := v1) (hd := true) (es := []) (ns := []) (NsR_nil _ _ _)
              exact RwE_ns rw1 (by rw [la]; omega) nr1
            have g3 : tkN T n q1 < tkN T n (tkN T n q1) ∨ True := Or.inr trivial
            have nb := (tkN_b T n (tkN T n q1) go1.2.1).1
            refine ih (fun r => gb (some (Sum.inr (r.1, r.2.1, 0, 0, r.2.2.2.2.1, r.2.2.2.2.2 ++ [(tkS T n (tkN T n q1), pl, v1)]))) K) (rowN E1 [(tkS T n (tkN T n q1), pl, v1)]) e2 L3 τ3 _ _ _ _ _ _ _ (es ++ [(tkS T n (tkN T n q1), 3, u, p + es.length, true)]) ((tkS T n (tkN T n q1), pl, v1) :: ns) c3 (fun q v bt rs => ?_) (by rw [y1]; exact l1) (by rw [y2]; exact l2) y3 (by rw [lb]; omega) ?_ (by rw [lb]; exact s3) nr2 rw2 (by rw [lb]; omega) (by omega)
            · show K (q, v, 0, 0, bt, rs ++ [(tkS T n (tkN T n q1), pl, v1)]) = _
              rw [hK]
              have e9 : rs ++ [(tkS T n (tkN T n q1), pl, v1)] ++ ns = rs ++ ((tkS T n (tkN T n q1), pl, v1) :: ns) := by rw [List.append_assoc]; rfl
              rw [e9]
            · rw [y5, lb]
              show L'.1 5 + 1 = _
              rw [l5, n_add1]
              exact congrArg nI (by omega)
        · rw [if_neg k12] at hg
          have hg2 : K (q1, v1, 0, 0, bt1, []) = some x := hg
          rw [hK] at hg2
          refine Tm_no (fun z => k12 ((lx_k (kk := 12) s1.1.1 (by decide)).1 z)) ?_
          refine Tm_suc (fun k => by rw [f_X5_iterNames]) ?_
          refine Tm_suc (fun k => by rw [f_X5_iterNames]) ?_
          refine Tm_yes (by show (0 : Int32) = 0; rfl) ?_
          refine Tm_suc (fun k => by rw [f_X5_iterNames]) ?_
          refine Tm_suc (fun k => by rw [f_X5_iterNames]) ?_
          refine Tm_no (by show ¬ (60 : Int32) < L'.1 5 + 1; rw [l5, n_add1]; show ¬ nI 60 < _; rw [n_lt (by decide) (by omega)]; omega) ?_
          refine Tm_yes rfl ?_
          refine Tm_suc (fun k => by rw [f_X5_iterNames]) ?_
          refine Tm_no (by show ¬ L'.1 2 = 0; rw [l2]; decide) ?_
          refine st_closes (kk := 11) s1 (by decide) rfl (gW_a3 hg2) (fun τ3 ret3 m1 m2 c3 s3 => ?_)
          obtain ⟨k11, c3⟩ := c3
          have g3 := go1.2.2 (by omega)
          refine Tm_suc (fun k => by rw [f_X5_iterNames]) ?_
          rw [← Option.some.inj c3]
          refine Tm_some (Qfin s3.1 ⟨es, le1, s3.1.1, nr, ev, ?_, Or.inr ⟨rfl, k10⟩⟩)
          show q + 1 + 2 * 1 ≤ tkN T n q1
          omega
    refine Tm_suc (fun k => by rw [f_X5_iterNames]) ?_
    refine Tm_no (by rw [l2']; decide) ?_
    have hop : (¬ (¬ o = 20 ∧ ¬ tkK T n (tkN T n q) = 0) ∧ x = Sum.inl (oF T n o q)) ∨ ((¬ o = 20 ∧ ¬ tkK T n (tkN T n q) = 0) ∧ gN T n E c g (tkN T n q) v bt (fun q2 v2 e2 b2 nm => gb (G T n f 18 (rowN E [nm]) (o + 1) q2 v2 0 e2 c g b2) (fun r => gW T n 11 r.1 (fun q3 => some (Sum.inr (q3, r.2.1, 1, e2, r.2.2.2.2.1, r.2.2.2.2.2 ++ [nm]))))) = some x) := by
      rcases gO_any hG with ⟨w1, w2⟩ | ⟨w1, w2⟩
      · exact Or.inl ⟨fun z => z.1 w1, oF_a w1 w2⟩
      · rcases gT_any w2 with ⟨w3, w4⟩ | ⟨w3, w4⟩
        · exact Or.inl ⟨fun z => z.2 w3, oF_b w1 w4⟩
        · exact Or.inr ⟨⟨w1, w3⟩, w4⟩
    refine st_opens s0 hop (fun τ1 ret n1 n2 c1 s1 => ?_)
    refine Tm_suc (fun k => by rw [f_X5_iterNames]) ?_
    have go1 := tk_go s1.1.1
    refine st_name (r0 := r0) s1 hu (fun z => by omega) (by omega) l1 hr l3 rfl (by show uN 0 ≤ 60; decide) (gN_a rw0 c1) (fun L3 τ3 m1 m2 c3 k26 y1 y2 y3 y5 s3 => ?_)
    obtain ⟨e3, b3, pl, c3⟩ := c3
    have nr1 := NsR_ad (u := u) (p := p) (bs := tkS T n (tkN T n q)) (pl := pl) (sl := v) (hd := true) nil0
    have g3 := go1.2.2 (by omega)
    exact lp f (fun r => gW T n 11 r.1 (fun q3 => some (Sum.inr (q3, r.2.1, 1, e3, r.2.2.2.2.1, r.2.2.2.2.2 ++ [(tkS T n (tkN T n q), pl, v)])))) (rowN E [(tkS T n (tkN T n q), pl, v)]) e3 L3 τ3 _ _ _ _ _ _ _ [(tkS T n (tkN T n q), 3, u, p, true)] [(tkS T n (tkN T n q), pl, v)] c3 (fun _ _ _ _ => rfl) (by rw [y1]; exact l1) (by rw [y2]; exact l2') y3 (Nat.le_refl _) (by rw [y5]; rfl) s3 nr1 (RwE_ns rw0 hr nr1) rfl (by omega)
  · rw [if_neg k10] at hG
    have l2' := l2.2 k10
    refine Tm_suc (fun k => by rw [f_X5_iterNames]) ?_
    refine Tm_yes l2' ?_
    refine Tm_suc (fun k => by rw [f_X5_iterNames]) ?_
    refine st_name (r0 := r0) s0 hu (fun z => by omega) (by omega) l1 hr l3 rfl (by show uN 0 ≤ 60; decide) (gN_a rw0 hG) (fun L3 τ3 m1 m2 c3 k26 y1 y2 y3 y5 s3 => ?_)
    obtain ⟨e3, b3, pl, c3⟩ := c3
    have nr1 := NsR_ad (u := u) (p := p) (bs := tkS T n q) (pl := pl) (sl := v) (hd := true) nil0
    have g3 := go.2.2 (by omega)
    refine Tm_yes (by rw [y2]; exact l2') ?_
    refine Tm_suc (fun k => by rw [f_X5_iterNames]) ?_
    refine Tm_suc (fun k => by rw [f_X5_iterNames]) ?_
    refine Tm_yes rfl ?_
    refine Tm_suc (fun k => by rw [f_X5_iterNames]) ?_
    refine Tm_suc (fun k => by rw [f_X5_iterNames]) ?_
    refine Tm_no (by show ¬ (60 : Int32) < L3.1 5 + 1; rw [y5]; show ¬ (60 : Int32) < 0 + 1; decide) ?_
    refine Tm_yes rfl ?_
    refine Tm_suc (fun k => by rw [f_X5_iterNames]) ?_
    refine Tm_yes (by show L3.1 2 = 0; rw [y2]; exact l2') ?_
    refine Tm_suc (fun k => by rw [f_X5_iterNames]) ?_
    rw [← Option.some.inj c3]
    refine Tm_some (Qfin s3.1 ⟨[(tkS T n q, 3, u, p, true)], Nat.le_refl _, s3.1.1, nr1, rfl, ?_, Or.inl ⟨rfl, rfl, k10⟩⟩)
    show q + 1 + 2 * 0 ≤ tkN T n q
    omega
end CVT
end JnS461
