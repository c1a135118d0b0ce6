/-! Two runs side by side (reference): repeat. -/
section KRP
variable {g1 g2 : Nat → Prop} {l1 l2 : List Nat} {B1 h1 B2 h2 n : Nat} {σ1 σ2 : MS}
theorem k_repeat {f a1 a2 k p b1 b2 q : Nat} (hS1 : HS g1 l1 B1 h1 σ1) (hS2 : HS g2 l2 B2 h2 σ2) (e1 : σ1.1 56 = 0) (e2 : σ2.1 56 = 0) (t1 : σ1.1 59 = nI f) (t2 : σ2.1 59 = nI f) (hf : f ≤ 176900) (hr1 : h1 + 8204 ≤ B1 + 870000) (hr2 : h2 + 8204 ≤ B2 + 870000) (hA : OE g1 g2 (σ1.2.2 28) (σ2.2.2 28) a1 a2 k p) (hk : k = 4 ∨ k = 5) (hB : WhE σ1 σ2 b1 b2 q) {L1 L2 : Nat → Int32} (d1 : L1 1 = nI a1) (d2 : L1 2 = nI b1) (f1 : L2 1 = nI a2) (f2 : L2 2 = nI b2) (hL : LE3 L1 L2) : Pm n (fun k => x_repeat k 0 L1 σ1) (fun k => x_repeat k 0 L2 σ2) (KQ h1 h2 8204) := by
  obtain ⟨o1, o2, _, _, o5, o6, o7, o8, o9, o10, o11, o12, o13, o14, _, o16, o17⟩ := hA
  have b5 : k = 4 → ∀ (W : Nat), W < 2147483648 → ∀ (m i : Nat) (N1 N2 : Nat → Int32) (τ1 τ2 : MS), i ≤ W → i ≤ 8200 → LE3 N1 N2 → N1 1 = nI a1 → N2 1 = nI a2 → N1 3 = nI p → N1 3 * N1 4 = nI W → N1 5 = nI i → (∀ j, τ1.1 j = σ1.1 j) → (∀ j, τ2.1 j = σ2.1 j) → (∀ j, j ≠ 51 → τ1.2.2 j = σ1.2.2 j) → (∀ j, j ≠ 51 → τ2.2.2 j = σ2.2.2 j) → AgN (τ1.2.2 51) (τ2.2.2 51) i → Pm m (fun k => x_repeat k 5 N1 τ1) (fun k => x_repeat k 5 N2 τ2) (KQ h1 h2 8204) := by
    intro hk4 W hW m
    have ca := o17 (by omega)
    induction m using Nat.strongRecOn with
    | ind m ih =>
    intro i N1 N2 τ1 τ2 hi hi2 hN x1 y1 x3 xW x5 s1 s2 u1 u2 hC
    have y3 : N2 3 = nI p := (hN 3 (by omega)).symm.trans x3
    have yW : N2 3 * N2 4 = nI W := by rw [← hN 3 (by omega), ← hN 4 (by omega)]; exact xW
    have y5 : N2 5 = nI i := (hN 5 (by omega)).symm.trans x5
    refine Pm_suc rfl (fun k => by rw [x_repeat]) (fun k => by rw [x_repeat]) (fun k1 hk1 => ?_)
    rw [xW, yW, x1, y1, x5, y5, x3, y3]
    refine Pm_ite Iff.rfl (fun y _ => ?_) (fun y _ => ?_)
    · have y := (n_le (by omega) (by omega)).mp y
      have e : i = W := by omega
      rw [e] at hC
      refine Pm_suc rfl (fun k => by rw [x_repeat]) (fun k => by rw [x_repeat]) (fun k2 hk2 => ?_)
      rw [xW, yW]
      exact Pm_ob (k_stringOf51 (f1 := 0) (f2 := 0) (w := W) (HS_c hS1 (s1 54) (s1 55) (u1 28 (by decide))) (HS_c hS2 (s2 54) (s2 55) (u2 28 (by decide))) ((s1 56).trans e1) ((s2 56).trans e2) (by omega) (by omega) (by omega) (fun _ => by omega) (fun _ => by omega) (fun i hi => by rw [Nat.zero_add]; exact hC i hi) rfl rfl rfl rfl) (fun r1 r2 hr => Pm_some (KQ_mo hr (by omega)))
    have hiW : i < W := by
      by_cases e : W ≤ i
      · exact absurd ((n_le (by omega) (by omega)).mpr e) y
      · omega
    refine Pm_ite Iff.rfl (fun z _ => fun k _ r1 r2 q1 _ => by cases q1) (fun z _ => ?_)
    have hp1 : 0 < p := by
      by_cases e : p = 0
      · exact absurd (by rw [e]; rfl) z
      · omega
    obtain ⟨j, hj, ej⟩ := n_rem (i := i) (n := p) (by omega) hp1 (by omega)
    rw [ej, show nI a1 + 4 = nI (a1 + 4) from n_add (q := 4) (by omega), show nI a2 + 4 = nI (a2 + 4) from n_add (q := 4) (by omega), n_add (p := a1 + 4) (by omega), n_add (p := a2 + 4) (by omega), n_cl (p := a1 + 4 + j) (by omega), n_cl (p := a2 + 4 + j) (by omega)]
    refine Pm_chk (fun _ _ => ?_)
    refine Pm_chk (fun c _ => ?_)
    have hi3 : i < 8200 := by
      rw [n_cl (by omega)] at c
      by_cases e : i < 8200
      · exact e
      · exact absurd (Or.inr (by omega)) c
    rw [n_cl (p := i) (by omega)]
    show Pm k1 (fun k => x_repeat k 6 N1 (mAr τ1 51 i (τ1.2.2 28 (a1 + 4 + j)))) (fun k => x_repeat k 6 N2 (mAr τ2 51 i (τ2.2.2 28 (a2 + 4 + j)))) _
    refine Pm_suc rfl (fun k => by rw [x_repeat]) (fun k => by rw [x_repeat]) (fun k2 hk2 => ?_)
    refine ih k2 (by omega) (i + 1) _ _ _ _ (by omega) (by omega) (LE_u hN (by rw [x5, y5])) x1 y1 x3 xW (by show N1 5 + 1 = _; rw [x5, n_add1]) s1 s2 (fun j hj => (mAr_o hj).trans (u1 j hj)) (fun j hj => (mAr_o hj).trans (u2 j hj)) ?_
    rw [mAr_s, mAr_s]
    exact AgN_up hC (by rw [u1 28 (by decide), u2 28 (by decide)]; exact (ca j hj).symm)
  have b9 : k = 5 → ∀ (W : Nat), W ≤ 8000 → ∀ (m i : Nat) (N1 N2 : Nat → Int32) (τ1 τ2 : MS), i ≤ W → LE3 N1 N2 → N1 1 = nI a1 → N2 1 = nI a2 → N1 3 = nI p → N1 3 * N1 4 = nI W → N1 5 = nI f → N1 6 = nI i → KPu g1 g2 f i σ1 σ2 τ1 τ2 → Pm m (fun k => x_repeat k 9 N1 τ1) (fun k => x_repeat k 9 N2 τ2) (KQ h1 h2 8204) := by
    intro hk5 W hW m
    have ca := o16 (by omega)
    induction m using Nat.strongRecOn with
    | ind m ih =>
    intro i N1 N2 τ1 τ2 hi hN x1 y1 x3 xW x5 x6 hK
    have y3 : N2 3 = nI p := (hN 3 (by omega)).symm.trans x3
    have yW : N2 3 * N2 4 = nI W := by rw [← hN 3 (by omega), ← hN 4 (by omega)]; exact xW
    have y5 : N2 5 = nI f := (hN 5 (by omega)).symm.trans x5
    have y6 : N2 6 = nI i := (hN 6 (by omega)).symm.trans x6
    have a28 : τ1.2.2 28 = σ1.2.2 28 := hK.1.2.1 28 (by decide)
    have b28 : τ2.2.2 28 = σ2.2.2 28 := hK.2.1.2.1 28 (by decide)
    refine Pm_suc rfl (fun k => by rw [x_repeat]) (fun k => by rw [x_repeat]) (fun k1 hk1 => ?_)
    rw [xW, yW, x1, y1, x6, y6, x3, y3]
    refine Pm_ite Iff.rfl (fun y _ => ?_) (fun y _ => ?_)
    · refine Pm_suc rfl (fun k => by rw [x_repeat]) (fun k => by rw [x_repeat]) (fun k2 hk2 => ?_)
      exact Pm_ob (k_tupP hK hS1 hS2 e1 e2 (by omega) (by omega) (by omega) (by exact x5) (by exact y5)) (fun r1 r2 hr => Pm_some (KQ_mo hr (by omega)))
    have hiW : i < W := by
      by_cases e : W ≤ i
      · exact absurd ((n_le (by omega) (by omega)).mpr e) y
      · omega
    refine Pm_ite Iff.rfl (fun z _ => fun k _ r1 r2 q1 _ => by cases q1) (fun z _ => ?_)
    have hp1 : 0 < p := by
      by_cases e : p = 0
      · exact absurd (by rw [e]; rfl) z
      · omega
    obtain ⟨j, hj, ej⟩ := n_rem (i := i) (n := p) (by omega) hp1 (by omega)
    rw [ej, show nI a1 + 4 = nI (a1 + 4) from n_add (q := 4) (by omega), show nI a2 + 4 = nI (a2 + 4) from n_add (q := 4) (by omega), n_add (p := a1 + 4) (by omega), n_add (p := a2 + 4) (by omega), n_cl (p := a1 + 4 + j) (by omega), n_cl (p := a2 + 4 + j) (by omega), a28, b28]
    refine Pm_chk (fun _ _ => ?_)
    exact Pm_ob (k_push hK (by omega) (ca j hj) rfl rfl) (fun r1 r2 hr => ih k1 (by omega) (i + 1) _ _ _ _ (by omega) (LE_u hN rfl) x1 y1 x3 xW x5 (by show nI i + 1 = _; rw [n_add1]) hr)
  have b3 : ∀ (m y : Nat) (N1 N2 : Nat → Int32), y ≤ 5001 → LE3 N1 N2 → N1 1 = nI a1 → N2 1 = nI a2 → N1 3 = nI p → N1 100 = nI y → Pm m (fun k => x_repeat k 3 N1 σ1) (fun k => x_repeat k 3 N2 σ2) (KQ h1 h2 8204) := by
    intro m y N1 N2 hy hN x1 y1 x3 x100
    have y3 : N2 3 = nI p := (hN 3 (by omega)).symm.trans x3
    have y100 : N2 100 = nI y := (hN 100 (by omega)).symm.trans x100
    have hpy : p * y ≤ 3996 * 5001 := Nat.mul_le_mul o6 hy
    refine Pm_suc rfl (fun k => by rw [x_repeat]) (fun k => by rw [x_repeat]) (fun k1 hk1 => ?_)
    rw [x3, y3, x100, y100]
    refine Pm_ite Iff.rfl (fun z _ => ?_) (fun _ _ => ?_)
    · have hW : p * y ≤ 8000 := by
        have := w_cmp.mp z
        rw [w_mul (by omega) (by omega)] at this
        have e8 : (8000 : Int64).toInt = 8000 := rfl
        rw [e8] at this
        omega
      have hN4 : LE3 (upd N1 4 (nI y)) (upd N2 4 (nI y)) := LE_u hN rfl
      have xW : upd N1 4 (nI y) 3 * upd N1 4 (nI y) 4 = nI (p * y) := by
        show N1 3 * nI y = _
        rw [x3, n_mulN]
      refine Pm_suc rfl (fun k => by rw [x_repeat]) (fun k => by rw [x_repeat]) (fun k2 hk2 => ?_)
      rw [show upd N1 4 (nI y) 1 = nI a1 from x1, show upd N2 4 (nI y) 1 = nI a2 from y1, n_cl (p := a1) (by omega), n_cl (p := a2) (by omega), o9, o10]
      refine Pm_chk (fun _ _ => ?_)
      refine Pm_ite Iff.rfl (fun w _ => ?_) (fun w _ => ?_)
      · have w := (n_eq (q := 4) (by omega) (by decide)).mp w
        exact b5 w (p * y) (by omega) k2 0 _ _ _ _ (Nat.zero_le _) (by omega) (LE_u hN4 rfl) x1 y1 x3 xW rfl (fun _ => rfl) (fun _ => rfl) (fun _ _ => rfl) (fun _ _ => rfl) (fun i hi => absurd hi (Nat.not_lt_zero i))
      · have w : ¬ k = 4 := fun e => w (by rw [e]; rfl)
        refine Pm_suc rfl (fun k => by rw [x_repeat]) (fun k => by rw [x_repeat]) (fun k3 hk3 => ?_)
        rw [t1, t2]
        exact b9 (by omega) (p * y) hW k3 0 _ _ _ _ (Nat.zero_le _) (LE_u (LE_u hN4 rfl) rfl) x1 y1 x3 xW rfl rfl (KPu_0 t1 t2)
    · refine Pm_ob (k_fail (K := 8204) (e := 5) (by decide) hS1 hS2 rfl rfl) (fun r1 r2 hr => ?_)
      rw [hr.1, hr.2.1]
      exact Pm_some hr.2.2
  refine Pm_suc rfl (fun k => by rw [x_repeat]) (fun k => by rw [x_repeat]) (fun m1 _ => ?_)
  refine Pm_ob (k_signOf hS1 hS2 hB (by exact d2) (by exact f2)) (fun z1 z2 hz => ?_)
  rw [hz.1, hz.2]
  refine Pm_ite Iff.rfl (fun s0 _ => ?_) (fun _ _ => ?_)
  case refine_2 =>
    refine Pm_ob (k_fail (K := 8204) (e := 4) (by decide) hS1 hS2 rfl rfl) (fun r1 r2 hr => ?_)
    rw [hr.1, hr.2.1]
    exact Pm_some hr.2.2
  refine Pm_suc rfl (fun k => by rw [x_repeat]) (fun k => by rw [x_repeat]) (fun m2 _ => ?_)
  rw [d1, f1, n_add1, n_add1, n_cl (p := a1 + 1) (by omega), n_cl (p := a2 + 1) (by omega), o11, o12]
  refine Pm_chk (fun _ _ => ?_)
  refine Pm_ite Iff.rfl (fun _ _ => b3 m2 0 _ _ (by omega) (LE_u (LE_u hL rfl) rfl) d1 f1 rfl rfl) (fun _ _ => ?_)
  refine Pm_suc rfl (fun k => by rw [x_repeat]) (fun k => by rw [x_repeat]) (fun m3 _ => ?_)
  refine Pm_ob (Pm_un (s_intOf (b := 5000) hS1 hB.1 (by decide) (by exact d2) rfl) (fun k => f_intOf k _ _ _ _) (s_intOf (b := 5000) hS2 hB.2.1 (by decide) (by exact f2) rfl) (fun k => f_intOf k _ _ _ _) (k_intOf hS1 hS2 hB (by exact d2) (by exact f2) rfl)) (fun r1 r2 hr => ?_)
  obtain ⟨hr0, ⟨hr1', y, hy, _, hy2⟩, ⟨hr2', _⟩⟩ := hr
  have ey := hy2 s0
  rw [← hr0, hr1', hr2', ey]
  exact b3 m3 y _ _ (by omega) (LE_u (LE_u hL rfl) rfl) d1 f1 rfl rfl
end KRP
