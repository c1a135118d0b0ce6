/-! The class: numbers and strings are read. -/
section CVN
variable {σ σ' σ0 τ τ' : CS} {L : LV} {b : Bool} {T : Nat → Int32} {n q q' u al o v mk p sz szB nc0 sz0 mk0 a1 a2 m kk f e t : Nat} {y w : Int32} {l l' cs cs' : List Int32} {tb : List Ent} {α : Type} {S : α → Int32 → CS → Prop} {C : Prop} {E : En} {gl : Nat × (Nat → Nat → Prop)} {Vm : Nat → Prop} {bt : BT}
/-- rows of wholes may change -/
theorem QS_w (h : QS T n b u al tb o q v mk p sz σ) (w : WF σ σ') : QS T n b u al tb o q v mk p sz σ' ∧ XK b u tb.length sz mk σ σ' := by
  obtain ⟨h1, h2, h3, h4, ⟨h5, h5', h5''⟩, ⟨h6, h6'⟩, ⟨h7, h7'⟩, h8⟩ := h
  obtain ⟨f1, f2, f3, f4⟩ := w
  have pc := pR_c b
  have fc1 := fP_c b 1
  have fc2 := fP_c b 11
  have fc3 := fP_c b 19
  have sn : ∀ k, sN σ' k = sN σ k := fun k => by show σ'.2.2.2.2.1 k = _; rw [f4]
  have kd : ∀ c, sKd σ' c = sKd σ c := fun c => by show σ'.2.2.2.2.2.1.2.2.2.2 c = _; rw [f4]
  have cd : ∀ c i, cdr c σ' i = cdr c σ i := fun c i => by
    show σ'.2.2.1 (pR0 (sKd σ' c)) i = _
    rw [kd c]
    rcases pR0_c (sKd σ c) with z | z
    · rw [f3 _ (by omega)]
    · rw [f3 _ (by omega)]
  have cl := CdL_s h2 (f1 _ (by omega)) (kd b) ⟨sn 43, sn 51⟩
  have m3 := h3.2
  refine ⟨⟨LxQ_s h1 (fun j _ hj => f1 j (by omega)) (by rw [f2]; exact ⟨rfl, rfl⟩) (f3 38 (by decide)) (sn 38) (by rw [f4]), cl, ⟨by rw [f1 _ (by decide)]; exact h3.1, by rw [sn]; exact m3.1, by rw [sn]; exact m3.2⟩, TbR_s h4 (f1 _ (by omega)) (by rw [f4]) (by rw [f4]) (f3 _ (by omega)) (f3 _ (by omega)) (f3 _ (by omega)) (f3 _ (by omega)), ⟨by show σ'.2.2.2.2.2.1.2.2.2.1 = _; rw [f4]; exact h5, by rw [f1 _ (by decide)]; exact h5', by rw [f1 _ (by decide)]; exact h5''⟩, ⟨by rw [f1 _ (by decide)]; exact h6, h6'⟩, ⟨by rw [f3 _ (by omega)]; exact h7, h7'⟩, by rw [f1 _ (by omega)]; exact h8⟩, ?_⟩
  refine ⟨⟨fun j hj => f1 j (by omega), fun j _ => by rw [f2]⟩, ⟨fun k hk => f3 k (by omega), fun k hk => sn k, fun k _ => by rw [f4]⟩, ⟨⟨by show σ'.2.2.2.2.2.1.1 = _; rw [f4], by show σ'.2.2.2.2.2.1.2.1 = _; rw [f4], by show σ'.2.2.2.2.2.1.2.2.1 = _; rw [f4], by show σ'.2.2.2.2.2.1.2.2.2.1 = _; rw [f4]⟩, fun c _ => kd c, by rw [f4]⟩, fun i _ => by rw [f3 _ (by omega)], fun i hi => ⟨⟨by rw [f4], by rw [f4]⟩, ⟨by rw [f3 _ (by omega)], by rw [f3 _ (by omega)]⟩, by rw [f3 _ (by omega)], by rw [f3 _ (by omega)]⟩, fun i _ => ⟨cd b i, cd (!b) i⟩, fun i _ => by rw [f3 41 (by decide)], cl.2, ⟨by rw [sn]; omega, by rw [sn]; exact m3.2⟩⟩
theorem Sy_w (h : Sy T n b u al σ0 nc0 sz0 mk0 a1 a2 tb o q v mk p szB cs τ) (w : WF τ τ') : Sy T n b u al σ0 nc0 sz0 mk0 a1 a2 tb o q v mk p szB cs τ' := by
  obtain ⟨q1, q2⟩ := QS_w h.1.1 w
  have ph := Ph_s (σ := τ) (σ' := τ') (by rw [w.2.2.2])
  have z := h.1.2.2.1
  exact Sy_c0 (n1 := 0) (n2 := 0) h q1 q2 ⟨by omega, by omega⟩ h.1.2.2.2.1 h.1.2.2.2.2.2
theorem digE_all (T : Nat → Int32) (n : Nat) : ∀ f p i : Nat, p ≤ i → i < digE T n f p → i < n ∧ isD (T i)
  | 0, p, i, h1, h2 => absurd h2 (by show ¬ i < p; omega)
  | f + 1, p, i, h1, h2 => by
    rw [digE_step] at h2
    by_cases c : isD (rB T n p)
    · rw [if_pos c] at h2
      by_cases e : i = p
      · have pl := isD_lt c
        rw [e]
        rw [rB_in pl] at c
        exact ⟨pl, c⟩
      · exact digE_all T n f (p + 1) i (by omega) h2
    · rw [if_neg c] at h2
      omega
theorem tk_dg (hq : q ≤ n) (h : tkK T n q = 27) : q < tkE T n q ∧ tkE T n q ≤ n ∧ ∀ i, q ≤ i → i < tkE T n q → isD (T i) := by
  have hc : q < n ∧ (tokM 0 T n q).1 = 2 := by
    rcases tk_cases T n q hq with ⟨_, a, b⟩ | ⟨hl, ⟨a, b⟩ | ⟨a, b⟩ | ⟨a, b⟩ | ⟨a, b1, b2, b3⟩ | ⟨a, b1, b2, b3⟩ | ⟨a, b⟩⟩
    · omega
    · omega
    · exact ⟨hl, a⟩
    · omega
    · omega
    · omega
    · omega
  obtain ⟨hl, a⟩ := hc
  have n0 : ¬ q = n := by omega
  have eE : tkE T n q = (tokM 0 T n q).2.2 := rfl
  unfold tokM at a eE
  rw [if_neg n0] at a eE
  by_cases c : isL (rB T n q)
  · exfalso
    rw [if_pos c] at a
    have a' : (if nameE T n (n + 1) q - q ≤ 16 then (if wordI (seg T q (nameE T n (n + 1) q)) = -1 then (1 : Int32) else 5) else 6) = 2 := a
    split at a'
    · split at a' <;> exact absurd a' (by decide)
    · exact absurd a' (by decide)
  · rw [if_neg c] at a eE
    by_cases c2 : isD (rB T n q)
    · rw [if_pos c2] at eE
      have eE' : tkE T n q = digE T n (n + 1) q := eE
      have e1 : digE T n (n + 1) q = digE T n n (q + 1) := by rw [digE_step, if_pos c2]
      have g1 := digE_ge T n n (q + 1)
      have g2 := digE_le T n (n + 1) q hq
      rw [eE']
      exact ⟨by omega, g2, fun i h1 h2 => (digE_all T n (n + 1) q i h1 h2).2⟩
    · exfalso
      rw [if_neg c2] at a
      by_cases c3 : rB T n q = 34
      · rw [if_pos c3] at a
        have a' : (if (strE T n (n + 1) (q + 1) < n ∧ T (strE T n (n + 1) (q + 1)) = 34) ∧ strE T n (n + 1) (q + 1) - q - 1 ≤ 100 then (3 : Int32) else 6) = 2 := a
        split at a' <;> exact absurd a' (by decide)
      · rw [if_neg c3] at a
        have a' : (if signF (rB T n q) (rB T n (q + 1)) = 0 then (6 : Int32) else 4) = 2 := a
        split at a' <;> exact absurd a' (by decide)
theorem tk_st (hq : q ≤ n) (h : tkK T n q = 28) : q + 2 ≤ tkE T n q ∧ tkE T n q ≤ n ∧ tkE T n q - 2 - q ≤ 100 := by
  have hc : q < n ∧ (tokM 0 T n q).1 = 3 := by
    rcases tk_cases T n q hq with ⟨_, a, b⟩ | ⟨hl, ⟨a, b⟩ | ⟨a, b⟩ | ⟨a, b⟩ | ⟨a, b1, b2, b3⟩ | ⟨a, b1, b2, b3⟩ | ⟨a, b⟩⟩
    · omega
    · omega
    · omega
    · exact ⟨hl, a⟩
    · omega
    · omega
    · omega
  obtain ⟨hl, a⟩ := hc
  have n0 : ¬ q = n := by omega
  have eE : tkE T n q = (tokM 0 T n q).2.2 := rfl
  unfold tokM at a eE
  rw [if_neg n0] at a eE
  by_cases c : isL (rB T n q)
  · exfalso
    rw [if_pos c] at a
    have a' : (if nameE T n (n + 1) q - q ≤ 16 then (if wordI (seg T q (nameE T n (n + 1) q)) = -1 then (1 : Int32) else 5) else 6) = 3 := a
    split at a'
    · split at a' <;> exact absurd a' (by decide)
    · exact absurd a' (by decide)
  · rw [if_neg c] at a eE
    by_cases c2 : isD (rB T n q)
    · exfalso
      rw [if_pos c2] at a
      have a' : (if digE T n (n + 1) q - q ≤ 60 then (2 : Int32) else 6) = 3 := a
      split at a' <;> exact absurd a' (by decide)
    · rw [if_neg c2] at a eE
      by_cases c3 : rB T n q = 34
      · rw [if_pos c3] at a eE
        have a' : (if (strE T n (n + 1) (q + 1) < n ∧ T (strE T n (n + 1) (q + 1)) = 34) ∧ strE T n (n + 1) (q + 1) - q - 1 ≤ 100 then (3 : Int32) else 6) = 3 := a
        by_cases c4 : (strE T n (n + 1) (q + 1) < n ∧ T (strE T n (n + 1) (q + 1)) = 34) ∧ strE T n (n + 1) (q + 1) - q - 1 ≤ 100
        · have eE' : tkE T n q = strE T n (n + 1) (q + 1) + (if strE T n (n + 1) (q + 1) < n ∧ T (strE T n (n + 1) (q + 1)) = 34 then 1 else 0) := eE
          rw [if_pos c4.1] at eE'
          have g1 := strE_ge T n (n + 1) (q + 1)
          rw [eE']
          have := c4.1.1
          have := c4.2
          exact ⟨by omega, by omega, by omega⟩
        · rw [if_neg c4] at a'
          exact absurd a' (by decide)
      · exfalso
        rw [if_neg c3] at a
        have a' : (if signF (rB T n q) (rB T n (q + 1)) = 0 then (6 : Int32) else 4) = 3 := a
        split at a' <;> exact absurd a' (by decide)
/-- a digit's byte, as the tape has it -/
theorem dg_row {R : Nat → Int32} (h : sameT T R n) {i : Nat} (hi : i < n) (d : isD (T i)) : ∃ a, a < 10 ∧ R i = nI (48 + a) := by
  have e := h.1 i hi
  have fb := h.2.1 i (by omega)
  have d1 : 48 ≤ (T i).toInt ∧ (T i).toInt ≤ 57 := by
    obtain ⟨z1, z2⟩ := d
    rw [i_le] at z1 z2
    exact ⟨z1, z2⟩
  have e2 : R i = T i := (u8_eq fb (by omega) (by omega)).1 e.symm
  refine ⟨(T i).toInt.toNat - 48, by omega, ?_⟩
  rw [e2, i_eq, n_int (by omega)]
  omega
theorem hd_2 : ∀ m : Nat, m < 33 → uN (((((2 : Int32) ||| ((0 : Int32) <<< ((3 : Int32) &&& 31))) ||| (nI m <<< ((4 : Int32) &&& 31))) ||| ((1 + nI m) <<< ((16 : Int32) &&& 31))) ||| ((0 : Int32) <<< ((26 : Int32) &&& 31))) = 2 + 16 * m + 65536 * (1 + m) := by decide +kernel
theorem hd_4 : ∀ m : Nat, m < 101 → ((nI m + 3) >>> ((2 : Int32) &&& 31) = nI ((m + 3) / 4) ∧ nI m >>> ((2 : Int32) &&& 31) = nI (m / 4) ∧ uN (((((4 : Int32) ||| ((0 : Int32) <<< ((3 : Int32) &&& 31))) ||| (nI m <<< ((4 : Int32) &&& 31))) ||| ((1 + nI ((m + 3) / 4)) <<< ((16 : Int32) &&& 31))) ||| ((0 : Int32) <<< ((26 : Int32) &&& 31))) = 4 + 16 * m + 65536 * (1 + (m + 3) / 4)) := by decide +kernel
theorem sm_lit (x : Int32) : LitG ((-1610612736) ||| (x &&& 268435455)) := by
  have e2 : uN (x &&& 268435455) = uN x % 268435456 := by
    rw [u_and]
    exact Nat.and_two_pow_sub_one_eq_mod (uN x) 28
  have e1 : uN ((x &&& 268435455) ||| (-1610612736)) = uN (x &&& 268435455) + uN (-1610612736 : Int32) := u_orA (k := 28) (a := 10) (by rw [e2]; omega) (by decide)
  have e3 : uN (-1610612736 : Int32) = 2684354560 := by decide
  rw [Int32.or_comm]
  left
  omega
theorem by_lit (x : Int32) : LitG ((-1073741824) ||| (x &&& 255)) := by
  have e2 : uN (x &&& 255) = uN x % 256 := by
    rw [u_and]
    exact Nat.and_two_pow_sub_one_eq_mod (uN x) 8
  have e1 : uN ((x &&& 255) ||| (-1073741824)) = uN (x &&& 255) + uN (-1073741824 : Int32) := u_orA (k := 8) (a := 12582912) (by rw [e2]; omega) (by decide)
  have e3 : uN (-1073741824 : Int32) = 3221225472 := by decide
  rw [Int32.or_comm]
  left
  omega
theorem c_limb0 {k : Nat} (h : σ.1 404 = nI k) (hk : k ≤ 32) (h1 : L.1 1 = 0) : Tm (fun k => y_X10_resultLimb k 0 L σ) (fun r => r.2 = σ ∧ (1 ≤ k → r.1 = σ.2.2.1 7 0)) := by
  refine Tm_suc (fun k => by rw [y_X10_resultLimb]) ?_
  rw [h1, h]
  refine Tm_no (by decide) ?_
  by_cases k0 : k = 0
  · refine Tm_yes (by rw [k0]; decide) ?_
    refine Tm_suc (fun k => by rw [y_X10_resultLimb]) ?_
    refine Tm_suc (fun k => by rw [y_X10_resultLimb]) ?_
    exact Tm_some ⟨rfl, fun z => by omega⟩
  · refine Tm_no (fun z => ?_) ?_
    · rw [u_le (by rw [u_n (by omega)]; omega) (by decide), u_n (by omega)] at z
      have z' : k ≤ 0 := z
      omega
    refine Tm_chk (u_in (by decide) (by decide)) ?_
    refine Tm_suc (fun k => by rw [y_X10_resultLimb]) ?_
    exact Tm_some ⟨rfl, fun _ => rfl⟩
end CVN
