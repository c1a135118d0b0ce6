/-! Two runs side by side (reference): turned about, slices. -/
section KRV
variable {g1 g2 : Nat → Prop} {l1 l2 : List Nat} {B1 h1 B2 h2 n : Nat} {σ1 σ2 : MS}
theorem k_reversed {f v1 v2 : Nat} (hS1 : HS g1 l1 B1 h1 σ1) (hS2 : HS g2 l2 B2 h2 σ2) (e1 : σ1.1 56 = 0) (e2 : σ2.1 56 = 0) (t1 : σ1.1 59 = nI f) (t2 : σ2.1 59 = nI f) (hf : f ≤ 177000) (hr1 : h1 + 4004 ≤ B1 + 870000) (hr2 : h2 + 4004 ≤ B2 + 870000) (hv1 : v1 < 3 ∨ g1 v1) (hv2 : v2 < 3 ∨ g2 v2) (hv : EVb (σ1.2.2 28) (σ2.2.2 28) v1 v2) {L1 L2 : Nat → Int32} (d1 : L1 1 = nI v1) (f1 : L2 1 = nI v2) (hL : LE3 L1 L2) : Pm n (fun k => x_reversed k 0 L1 σ1) (fun k => x_reversed k 0 L2 σ2) (KQ h1 h2 4004) := by
  have kv := kdN_6 hS1 hv1
  have c1 : (kdN (σ1.2.2 28) v1 = 4 ∨ kdN (σ1.2.2 28) v1 = 5) → ∀ (m : Nat) (N1 N2 : Nat → Int32), LE3 N1 N2 → N1 1 = nI v1 → N2 1 = nI v2 → N1 2 = nI (kdN (σ1.2.2 28) v1) → N2 2 = nI (kdN (σ1.2.2 28) v1) → Pm m (fun k => x_reversed k 1 N1 σ1) (fun k => x_reversed k 1 N2 σ2) (KQ h1 h2 4004) := by
    intro hk m N1 N2 hN x1 y1 x2 y2
    obtain ⟨k, p, hO⟩ := OE_of hS1 hS2 (kdN_ge hS1 hv1 (by omega)) hv2 hv
    obtain ⟨_, _, _, _, _, o6, o7, _, _, _, o11, o12, o13, o14, _, o16, o17⟩ := hO
    refine Pm_suc rfl (fun k => by rw [x_reversed]) (fun k => by rw [x_reversed]) (fun m1 _ => ?_)
    rw [x1, y1, x2, y2, n_add1, n_add1, n_cl (p := v1 + 1) (by omega), n_cl (p := v2 + 1) (by omega), o11, o12]
    refine Pm_chk (fun _ _ => ?_)
    refine Pm_ite Iff.rfl (fun z _ => ?_) (fun z _ => ?_)
    · have z := (n_eq (q := 4) (by omega) (by decide)).mp z
      have ca := o17 (by omega)
      have lp : ∀ (m i : Nat) (N1 N2 : Nat → Int32) (τ1 τ2 : MS), i ≤ p → LE3 N1 N2 → N1 1 = nI v1 → N2 1 = nI v2 → N1 3 = nI p → N1 4 = nI i → (∀ j, τ1.1 j = σ1.1 j) → (∀ j, τ2.1 j = σ2.1 j) → (∀ j, j ≠ 51 → τ1.2.2 j = σ1.2.2 j) → (∀ j, j ≠ 51 → τ2.2.2 j = σ2.2.2 j) → AgN (τ1.2.2 51) (τ2.2.2 51) i → Pm m (fun k => x_reversed k 2 N1 τ1) (fun k => x_reversed k 2 N2 τ2) (KQ h1 h2 4004) := by
        intro m
        induction m using Nat.strongRecOn with
        | ind m ih =>
        intro i N1 N2 τ1 τ2 hi hN x1 y1 x3 x4 s1 s2 u1 u2 hC
        have y3 : N2 3 = nI p := (hN 3 (by omega)).symm.trans x3
        have y4 : N2 4 = nI i := (hN 4 (by omega)).symm.trans x4
        refine Pm_suc rfl (fun k => by rw [x_reversed]) (fun k => by rw [x_reversed]) (fun k1 hk1 => ?_)
        rw [x1, y1, x3, y3, x4, y4]
        refine Pm_ite Iff.rfl (fun y _ => ?_) (fun y _ => ?_)
        · have y := (n_le (by omega) (by omega)).mp y
          have e : i = p := by omega
          rw [e] at hC
          refine Pm_suc rfl (fun k => by rw [x_reversed]) (fun k => by rw [x_reversed]) (fun k2 hk2 => ?_)
          rw [x3, y3]
          exact Pm_ob (k_stringOf51 (f1 := 0) (f2 := 0) (w := p) (HS_c hS1 (s1 54) (s1 55) (u1 28 (by decide))) (HS_c hS2 (s2 54) (s2 55) (u2 28 (by decide))) ((s1 56).trans e1) ((s2 56).trans e2) hr1 hr2 (by omega) (fun _ => by omega) (fun _ => by omega) (fun i hi => by rw [Nat.zero_add]; exact hC i hi) rfl rfl rfl rfl) (fun r1 r2 hr => Pm_some hr)
        have hip : i < p := by
          by_cases e : p ≤ i
          · exact absurd ((n_le (by omega) (by omega)).mpr e) y
          · omega
        rw [show nI v1 + 4 = nI (v1 + 4) from n_add (q := 4) (by omega), show nI v2 + 4 = nI (v2 + 4) from n_add (q := 4) (by omega), n_add (p := v1 + 4) (by omega), n_add (p := v2 + 4) (by omega), show nI (v1 + 4 + p) - 1 = nI (v1 + 4 + p - 1) from n_sub (p := v1 + 4 + p) (q := 1) (by omega) (by omega), show nI (v2 + 4 + p) - 1 = nI (v2 + 4 + p - 1) from n_sub (p := v2 + 4 + p) (q := 1) (by omega) (by omega), n_sub (p := v1 + 4 + p - 1) (by omega) (by omega), n_sub (p := v2 + 4 + p - 1) (by omega) (by omega), n_cl (p := v1 + 4 + p - 1 - i) (by omega), n_cl (p := v2 + 4 + p - 1 - i) (by omega), n_cl (p := i) (by omega)]
        refine Pm_chk (fun _ _ => ?_)
        refine Pm_chk (fun _ _ => ?_)
        show Pm k1 (fun k => x_reversed k 3 N1 (mAr τ1 51 i (τ1.2.2 28 (v1 + 4 + p - 1 - i)))) (fun k => x_reversed k 3 N2 (mAr τ2 51 i (τ2.2.2 28 (v2 + 4 + p - 1 - i)))) _
        refine Pm_suc rfl (fun k => by rw [x_reversed]) (fun k => by rw [x_reversed]) (fun k2 hk2 => ?_)
        refine ih k2 (by omega) (i + 1) _ _ _ _ (by omega) (LE_u hN (by rw [x4, y4])) x1 y1 x3 (by show N1 4 + 1 = _; rw [x4, n_add1]) s1 s2 (fun j hj => (mAr_o hj).trans (u1 j hj)) (fun j hj => (mAr_o hj).trans (u2 j hj)) ?_
        rw [mAr_s, mAr_s]
        refine AgN_up hC ?_
        rw [u1 28 (by decide), u2 28 (by decide), show v1 + 4 + p - 1 - i = v1 + 4 + (p - 1 - i) by omega, show v2 + 4 + p - 1 - i = v2 + 4 + (p - 1 - i) by omega]
        exact (ca (p - 1 - i) (by omega)).symm
      exact lp m1 0 _ _ _ _ (Nat.zero_le _) (LE_u (LE_u hN rfl) rfl) x1 y1 rfl rfl (fun _ => rfl) (fun _ => rfl) (fun _ _ => rfl) (fun _ _ => rfl) (fun i hi => absurd hi (Nat.not_lt_zero i))
    · have hk5 : 5 ≤ k := by
        rcases hk with e | e
        · exact absurd (by rw [e]; rfl) z
        · omega
      have ca := o16 hk5
      have lp : ∀ (m i w : Nat) (N1 N2 : Nat → Int32) (τ1 τ2 : MS), i + w = p → LE3 N1 N2 → N1 1 = nI v1 → N2 1 = nI v2 → N1 4 = nI f → N1 5 = nI i - 1 → KPu g1 g2 f w σ1 σ2 τ1 τ2 → Pm m (fun k => x_reversed k 6 N1 τ1) (fun k => x_reversed k 6 N2 τ2) (KQ h1 h2 4004) := by
        intro m
        induction m using Nat.strongRecOn with
        | ind m ih =>
        intro i w N1 N2 τ1 τ2 hi hN x1 y1 x4 x5 hK
        have y4 : N2 4 = nI f := (hN 4 (by omega)).symm.trans x4
        have y5 : N2 5 = nI i - 1 := (hN 5 (by omega)).symm.trans x5
        refine Pm_suc rfl (fun k => by rw [x_reversed]) (fun k => by rw [x_reversed]) (fun k1 hk1 => ?_)
        rcases Nat.eq_zero_or_pos i with i0 | i0
        · rw [x5, y5, i0]
          refine Pm_ite Iff.rfl (fun _ _ => ?_) (fun w _ => absurd (by decide) w)
          refine Pm_suc rfl (fun k => by rw [x_reversed]) (fun k => by rw [x_reversed]) (fun k2 hk2 => ?_)
          exact Pm_ob (k_tupP hK hS1 hS2 e1 e2 (by omega) (by omega) (by omega) (by exact x4) (by exact y4)) (fun r1 r2 hr => Pm_some (KQ_mo hr (by omega)))
        have x5 : N1 5 = nI (i - 1) := by rw [x5]; exact n_sub (p := i) (q := 1) (by omega) (by omega)
        have y5 : N2 5 = nI (i - 1) := by rw [y5]; exact n_sub (p := i) (q := 1) (by omega) (by omega)
        have a28 : τ1.2.2 28 = σ1.2.2 28 := hK.1.2.1 28 (by decide)
        have b28 : τ2.2.2 28 = σ2.2.2 28 := hK.2.1.2.1 28 (by decide)
        rw [x1, y1, x5, y5, show nI v1 + 4 = nI (v1 + 4) from n_add (q := 4) (by omega), show nI v2 + 4 = nI (v2 + 4) from n_add (q := 4) (by omega), n_add (p := v1 + 4) (by omega), n_add (p := v2 + 4) (by omega), n_cl (p := v1 + 4 + (i - 1)) (by omega), n_cl (p := v2 + 4 + (i - 1)) (by omega), a28, b28]
        refine Pm_ite Iff.rfl (fun w _ => absurd ((n_lt (q := 0) (by omega) (by decide)).mp w) (by omega)) (fun _ _ => ?_)
        refine Pm_chk (fun _ _ => ?_)
        refine Pm_ob (k_push hK (by omega) (ca (i - 1) (by omega)) rfl rfl) (fun r1 r2 hr => ih k1 (by omega) (i - 1) (w + 1) _ _ _ _ (by omega) (LE_u hN rfl) x1 y1 x4 ?_ hr)
        show nI (i - 1) + (-1) = nI (i - 1) - 1
        rw [Int32.sub_eq_add_neg]
      refine Pm_suc rfl (fun k => by rw [x_reversed]) (fun k => by rw [x_reversed]) (fun k1 hk1 => ?_)
      rw [t1, t2]
      exact lp k1 p 0 _ _ _ _ (by omega) (LE_u (LE_u (LE_u hN rfl) rfl) rfl) x1 y1 rfl rfl (KPu_0 t1 t2)
  refine Pm_suc rfl (fun k => by rw [x_reversed]) (fun k => by rw [x_reversed]) (fun m1 _ => ?_)
  refine Pm_ob (Pm_t2 (s_kind hS1 hv1 (by exact d1)) (fun k => f_kind k _ _ _) (s_kind hS2 hv2 (by exact f1)) (fun k => f_kind k _ _ _)) (fun r1 r2 hr => ?_)
  rw [hr.1, hr.2, (EVb_sz hv).2.2]
  refine Pm_ite Iff.rfl (fun z _ => c1 (Or.inl ((n_eq (q := 4) (by omega) (by decide)).mp z)) m1 _ _ (LE_u hL rfl) d1 f1 rfl rfl) (fun _ _ => ?_)
  refine Pm_ite Iff.rfl (fun z _ => c1 (Or.inr ((n_eq (q := 5) (by omega) (by decide)).mp z)) m1 _ _ (LE_u hL rfl) d1 f1 rfl rfl) (fun _ _ => ?_)
  exact Pm_ob (k_wrongKind hS1 hS2 _ _) (fun s1 s2 hs => Pm_some hs)
/-- the bounds of a slice are read alike -/
def SlE (g1 : Nat → Prop) (σ1 σ2 : MS) (v1 : Nat) (r1 r2 : Int32 × MS) : Prop := (r1 = (0, mEr σ1 1) ∧ r2 = (0, mEr σ2 1)) ∨ (r1.1 = 1 ∧ r2.1 = 1 ∧ g1 v1 ∧ (kdN (σ1.2.2 28) v1 = 4 ∨ kdN (σ1.2.2 28) v1 = 5) ∧ ∃ x z : Int32, ∃ y w : Nat, y ≤ 100001 ∧ w ≤ 100001 ∧ (x = nI y ∨ x = - nI y) ∧ (z = nI w ∨ z = - nI w) ∧ r1.2 = mSc (mSc σ1 100 x) 101 z ∧ r2.2 = mSc (mSc σ2 100 x) 101 z)
theorem k_isSlice {v1 v2 a1 a2 b1 b2 : Nat} (hS1 : HS g1 l1 B1 h1 σ1) (hS2 : HS g2 l2 B2 h2 σ2) (hv1 : v1 < 3 ∨ g1 v1) (hv2 : v2 < 3 ∨ g2 v2) (hv : EVb (σ1.2.2 28) (σ2.2.2 28) v1 v2) (ha1 : a1 < 3 ∨ g1 a1) (ha2 : a2 < 3 ∨ g2 a2) (va : EVb (σ1.2.2 28) (σ2.2.2 28) a1 a2) (hb1 : b1 < 3 ∨ g1 b1) (hb2 : b2 < 3 ∨ g2 b2) (vb : EVb (σ1.2.2 28) (σ2.2.2 28) b1 b2) {L1 L2 : Nat → Int32} (d1 : L1 1 = nI v1) (f1 : L2 1 = nI v2) (d2 : L1 2 = nI a1) (f2 : L2 2 = nI a2) (d3 : L1 3 = nI b1) (f3 : L2 3 = nI b2) : Pm n (fun k => x_isSlice k 0 L1 σ1) (fun k => x_isSlice k 0 L2 σ2) (SlE g1 σ1 σ2 v1) := by
  have kv := kdN_6 hS1 hv1
  have ka := kdN_6 hS1 ha1
  have kb := kdN_6 hS1 hb1
  have c2 : ∀ (m : Nat) (N1 N2 : Nat → Int32), Pm m (fun k => x_isSlice k 2 N1 σ1) (fun k => x_isSlice k 2 N2 σ2) (SlE g1 σ1 σ2 v1) := fun m N1 N2 => by
    refine Pm_suc rfl (fun k => by rw [x_isSlice]) (fun k => by rw [x_isSlice]) (fun m1 _ => ?_)
    refine Pm_ob (k_fail (K := 5) (e := 1) (by decide) hS1 hS2 rfl rfl) (fun r1 r2 hr => ?_)
    rw [hr.1, hr.2.1]
    exact Pm_some (Or.inl ⟨rfl, rfl⟩)
  have c1 : (kdN (σ1.2.2 28) v1 = 4 ∨ kdN (σ1.2.2 28) v1 = 5) → ∀ (m : Nat) (N1 N2 : Nat → Int32), N1 2 = nI a1 → N2 2 = nI a2 → N1 3 = nI b1 → N2 3 = nI b2 → Pm m (fun k => x_isSlice k 1 N1 σ1) (fun k => x_isSlice k 1 N2 σ2) (SlE g1 σ1 σ2 v1) := by
    intro hk m N1 N2 x2 y2 x3 y3
    refine Pm_suc rfl (fun k => by rw [x_isSlice]) (fun k => by rw [x_isSlice]) (fun m1 _ => ?_)
    refine Pm_ob (Pm_t2 (s_kind hS1 ha1 (by exact x2)) (fun k => f_kind k _ _ _) (s_kind hS2 ha2 (by exact y2)) (fun k => f_kind k _ _ _)) (fun r1 r2 hr => ?_)
    rw [hr.1, hr.2, (EVb_sz va).2.2]
    refine Pm_ite Iff.rfl (fun w _ => ?_) (fun _ _ => c2 m1 _ _)
    have w := (n_eq (q := 2) (by omega) (by decide)).mp w
    refine Pm_ob (Pm_t2 (s_kind hS1 hb1 (by exact x3)) (fun k => f_kind k _ _ _) (s_kind hS2 hb2 (by exact y3)) (fun k => f_kind k _ _ _)) (fun r1 r2 hr => ?_)
    rw [hr.1, hr.2, (EVb_sz vb).2.2]
    refine Pm_ite Iff.rfl (fun w2 _ => ?_) (fun _ _ => c2 m1 _ _)
    have w2 := (n_eq (q := 2) (by omega) (by decide)).mp w2
    obtain ⟨p, hA⟩ := WhE_of hS1 hS2 ha1 ha2 va w
    obtain ⟨q, hB⟩ := WhE_of hS1 hS2 hb1 hb2 vb w2
    refine Pm_suc rfl (fun k => by rw [x_isSlice]) (fun k => by rw [x_isSlice]) (fun m2 _ => ?_)
    refine Pm_ob (Pm_un (s_intOf (b := 100000) hS1 hA.1 (by decide) (by exact x2) rfl) (fun k => f_intOf k _ _ _ _) (s_intOf (b := 100000) hS2 hA.2.1 (by decide) (by exact y2) rfl) (fun k => f_intOf k _ _ _ _) (k_intOf hS1 hS2 hA (by exact x2) (by exact y2) rfl)) (fun s1 s2 hs => ?_)
    obtain ⟨hr0, ⟨hr1', y, u1, u2, u3⟩, ⟨hr2', _⟩⟩ := hs
    rw [← hr0, hr1', hr2']
    show Pm m2 (fun k => x_isSlice k 4 N1 (mSc σ1 100 s1.1)) (fun k => x_isSlice k 4 N2 (mSc σ2 100 s1.1)) _
    refine Pm_suc rfl (fun k => by rw [x_isSlice]) (fun k => by rw [x_isSlice]) (fun m3 _ => ?_)
    have hT1 : HS g1 l1 B1 h1 (mSc σ1 100 s1.1) := HS_c hS1 rfl rfl rfl
    have hT2 : HS g2 l2 B2 h2 (mSc σ2 100 s1.1) := HS_c hS2 rfl rfl rfl
    have hB' : WhE (mSc σ1 100 s1.1) (mSc σ2 100 s1.1) b1 b2 q := hB
    refine Pm_ob (Pm_un (s_intOf (b := 100000) hT1 hB'.1 (by decide) (by exact x3) rfl) (fun k => f_intOf k _ _ _ _) (s_intOf (b := 100000) hT2 hB'.2.1 (by decide) (by exact y3) rfl) (fun k => f_intOf k _ _ _ _) (k_intOf hT1 hT2 hB' (by exact x3) (by exact y3) rfl)) (fun z1 z2 hz => ?_)
    obtain ⟨hz0, ⟨hz1', w', w1, w2', w3⟩, ⟨hz2', _⟩⟩ := hz
    rw [← hz0, hz1', hz2']
    show Pm m3 (fun k => x_isSlice k 5 N1 (mSc (mSc σ1 100 s1.1) 101 z1.1)) (fun k => x_isSlice k 5 N2 (mSc (mSc σ2 100 s1.1) 101 z1.1)) _
    refine Pm_suc rfl (fun k => by rw [x_isSlice]) (fun k => by rw [x_isSlice]) (fun m4 _ => ?_)
    exact Pm_some (Or.inr ⟨rfl, rfl, kdN_ge hS1 hv1 (by omega), hk, s1.1, z1.1, y, w', u1, w1, u2, w2', rfl, rfl⟩)
  refine Pm_suc rfl (fun k => by rw [x_isSlice]) (fun k => by rw [x_isSlice]) (fun m1 _ => ?_)
  refine Pm_ob (Pm_t2 (s_kind hS1 hv1 (by exact d1)) (fun k => f_kind k _ _ _) (s_kind hS2 hv2 (by exact f1)) (fun k => f_kind k _ _ _)) (fun r1 r2 hr => ?_)
  rw [hr.1, hr.2, (EVb_sz hv).2.2]
  refine Pm_ite Iff.rfl (fun z _ => c1 (Or.inl ((n_eq (q := 4) (by omega) (by decide)).mp z)) m1 _ _ d2 f2 d3 f3) (fun _ _ => ?_)
  exact Pm_ite Iff.rfl (fun z _ => c1 (Or.inr ((n_eq (q := 5) (by omega) (by decide)).mp z)) m1 _ _ d2 f2 d3 f3) (fun _ _ => c2 m1 _ _)
end KRV
