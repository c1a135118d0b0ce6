/-! Two runs side by side (reference): a slice is written. -/
section KSL
variable {g1 g2 : Nat → Prop} {l1 l2 : List Nat} {B1 h1 B2 h2 n : Nat} {σ1 σ2 : MS}
def SLl (v x q p c i : Nat) (N : Nat → Int32) : Prop := N 1 = nI v ∧ N 4 = nI x ∧ N 5 = nI q ∧ N 6 = nI p ∧ N 7 = nI c ∧ N 8 = nI i
theorem k_ptS4 {v1 v2 x1 x2 q p y w m : Nat} (hS1 : HS g1 l1 B1 h1 σ1) (hS2 : HS g2 l2 B2 h2 σ2) (e1 : σ1.1 56 = 0) (e2 : σ2.1 56 = 0) (hr1 : h1 + 4004 ≤ B1 + 870000) (hr2 : h2 + 4004 ≤ B2 + 870000) (hO : OE g1 g2 (σ1.2.2 28) (σ2.2.2 28) v1 v2 4 q) (hX : OE g1 g2 (σ1.2.2 28) (σ2.2.2 28) x1 x2 4 p) (s1 : σ1.1 100 = nI y) (s2 : σ1.1 101 = nI w) (u1 : σ2.1 100 = nI y) (u2 : σ2.1 101 = nI w) (hy : 1 ≤ y) (hyw : y ≤ w + 1) (hw : w ≤ q) {N1 N2 : Nat → Int32} (hN1 : SLl v1 x1 q p 0 0 N1) (hN2 : SLl v2 x2 q p 0 0 N2) : Pm m (fun k => x_putSlice k 4 N1 σ1) (fun k => x_putSlice k 4 N2 σ2) (KQ h1 h2 8204) := by
  obtain ⟨_, _, _, _, _, o6, o7, _, _, _, o11, o12, o13, o14, _, _, o17⟩ := hO
  obtain ⟨_, _, _, _, _, x6, x7, _, _, _, x11, x12, x13, x14, _, _, x17⟩ := hX
  have ca := o17 (by omega)
  have cx := x17 (by omega)
  have c10 : ∀ (m i c : Nat) (M1 M2 : Nat → Int32) (τ1 τ2 : MS), w ≤ i → i ≤ q → c + w = y - 1 + p + i → SLl v1 x1 q p c i M1 → SLl v2 x2 q p c i M2 → B51 σ1 τ1 → B51 σ2 τ2 → AgN (τ1.2.2 51) (τ2.2.2 51) c → Pm m (fun k => x_putSlice k 10 M1 τ1) (fun k => x_putSlice k 10 M2 τ2) (KQ h1 h2 8204) := by
    intro m
    induction m using Nat.strongRecOn with
    | ind m ih =>
    intro i c M1 M2 τ1 τ2 hwi hi hc hM1 hM2 b1 b2 hA
    have a28 : τ1.2.2 28 = σ1.2.2 28 := b1.2 28 (by decide)
    have b28 : τ2.2.2 28 = σ2.2.2 28 := b2.2 28 (by decide)
    refine Pm_suc rfl (fun k => by rw [x_putSlice]) (fun k => by rw [x_putSlice]) (fun k1 hk1 => ?_)
    rw [hM1.1, hM2.1, hM1.2.2.1, hM2.2.2.1, hM1.2.2.2.2.1, hM2.2.2.2.2.1, hM1.2.2.2.2.2, hM2.2.2.2.2.2, show nI v1 + 4 = nI (v1 + 4) from n_add (q := 4) (by omega), show nI v2 + 4 = nI (v2 + 4) from n_add (q := 4) (by omega), n_add (p := v1 + 4) (by omega), n_add (p := v2 + 4) (by omega), n_cl (p := v1 + 4 + i) (by omega), n_cl (p := v2 + 4 + i) (by omega), n_cl (p := c) (by omega), a28, b28]
    refine Pm_ite Iff.rfl (fun z _ => ?_) (fun z _ => ?_)
    · refine Pm_suc rfl (fun k => by rw [x_putSlice]) (fun k => by rw [x_putSlice]) (fun k2 hk2 => ?_)
      exact Pm_ob (k_str51 hS1 hS2 e1 e2 hr1 hr2 b1 b2 (w := c) (by omega) hA rfl rfl (by exact hM1.2.2.2.2.1) (by exact hM2.2.2.2.2.1)) (fun r1 r2 hr => Pm_some (KQ_mo hr (by omega)))
    have hiq : i < q := by
      by_cases d : i < q
      · exact d
      · exact absurd ((n_le (by omega) (by omega)).mpr (by omega)) z
    refine Pm_chk (fun _ _ => ?_)
    refine Pm_chk (fun _ _ => ?_)
    show Pm k1 (fun k => x_putSlice k 11 M1 (mAr τ1 51 c (σ1.2.2 28 (v1 + 4 + i)))) (fun k => x_putSlice k 11 M2 (mAr τ2 51 c (σ2.2.2 28 (v2 + 4 + i)))) _
    refine Pm_suc rfl (fun k => by rw [x_putSlice]) (fun k => by rw [x_putSlice]) (fun k2 hk2 => ?_)
    rw [hM1.2.2.2.2.1, hM2.2.2.2.2.1, hM1.2.2.2.2.2, hM2.2.2.2.2.2, n_add1, n_add1]
    exact ih k2 (by omega) (i + 1) (c + 1) _ _ _ _ (by omega) (by omega) (by omega) ⟨hM1.1, hM1.2.1, hM1.2.2.1, hM1.2.2.2.1, rfl, rfl⟩ ⟨hM2.1, hM2.2.1, hM2.2.2.1, hM2.2.2.2.1, rfl, rfl⟩ (B51_w b1) (B51_w b2) (AgN_w51 hA (ca i hiq).symm)
  have c7 : ∀ (m i c : Nat) (M1 M2 : Nat → Int32) (τ1 τ2 : MS), i ≤ p → c = y - 1 + i → SLl v1 x1 q p c i M1 → SLl v2 x2 q p c i M2 → B51 σ1 τ1 → B51 σ2 τ2 → AgN (τ1.2.2 51) (τ2.2.2 51) c → Pm m (fun k => x_putSlice k 7 M1 τ1) (fun k => x_putSlice k 7 M2 τ2) (KQ h1 h2 8204) := by
    intro m
    induction m using Nat.strongRecOn with
    | ind m ih =>
    intro i c M1 M2 τ1 τ2 hi hc hM1 hM2 b1 b2 hA
    have a28 : τ1.2.2 28 = σ1.2.2 28 := b1.2 28 (by decide)
    have b28 : τ2.2.2 28 = σ2.2.2 28 := b2.2 28 (by decide)
    refine Pm_suc rfl (fun k => by rw [x_putSlice]) (fun k => by rw [x_putSlice]) (fun k1 hk1 => ?_)
    rw [hM1.2.1, hM2.2.1, hM1.2.2.2.1, hM2.2.2.2.1, hM1.2.2.2.2.1, hM2.2.2.2.2.1, hM1.2.2.2.2.2, hM2.2.2.2.2.2, show nI x1 + 4 = nI (x1 + 4) from n_add (q := 4) (by omega), show nI x2 + 4 = nI (x2 + 4) from n_add (q := 4) (by omega), n_add (p := x1 + 4) (by omega), n_add (p := x2 + 4) (by omega), n_cl (p := x1 + 4 + i) (by omega), n_cl (p := x2 + 4 + i) (by omega), n_cl (p := c) (by omega), a28, b28]
    refine Pm_ite Iff.rfl (fun z _ => ?_) (fun z _ => ?_)
    · have z := (n_le (by omega) (by omega)).mp z
      refine Pm_suc rfl (fun k => by rw [x_putSlice]) (fun k => by rw [x_putSlice]) (fun k2 hk2 => ?_)
      rw [b1.1 101, b2.1 101, s2, u2]
      exact c10 k2 w c _ _ _ _ (Nat.le_refl _) hw (by omega) ⟨hM1.1, hM1.2.1, hM1.2.2.1, hM1.2.2.2.1, hM1.2.2.2.2.1, rfl⟩ ⟨hM2.1, hM2.2.1, hM2.2.2.1, hM2.2.2.2.1, hM2.2.2.2.2.1, rfl⟩ b1 b2 hA
    have hip : i < p := by
      by_cases d : i < p
      · exact d
      · exact absurd ((n_le (by omega) (by omega)).mpr (by omega)) z
    refine Pm_chk (fun _ _ => ?_)
    refine Pm_chk (fun _ _ => ?_)
    show Pm k1 (fun k => x_putSlice k 8 M1 (mAr τ1 51 c (σ1.2.2 28 (x1 + 4 + i)))) (fun k => x_putSlice k 8 M2 (mAr τ2 51 c (σ2.2.2 28 (x2 + 4 + i)))) _
    refine Pm_suc rfl (fun k => by rw [x_putSlice]) (fun k => by rw [x_putSlice]) (fun k2 hk2 => ?_)
    rw [hM1.2.2.2.2.1, hM2.2.2.2.2.1, hM1.2.2.2.2.2, hM2.2.2.2.2.2, n_add1, n_add1]
    exact ih k2 (by omega) (i + 1) (c + 1) _ _ _ _ (by omega) (by omega) ⟨hM1.1, hM1.2.1, hM1.2.2.1, hM1.2.2.2.1, rfl, rfl⟩ ⟨hM2.1, hM2.2.1, hM2.2.2.1, hM2.2.2.2.1, rfl, rfl⟩ (B51_w b1) (B51_w b2) (AgN_w51 hA (cx i hip).symm)
  have c4 : ∀ (m i : Nat) (M1 M2 : Nat → Int32) (τ1 τ2 : MS), i + 1 ≤ y → SLl v1 x1 q p i i M1 → SLl v2 x2 q p i i M2 → B51 σ1 τ1 → B51 σ2 τ2 → AgN (τ1.2.2 51) (τ2.2.2 51) i → Pm m (fun k => x_putSlice k 4 M1 τ1) (fun k => x_putSlice k 4 M2 τ2) (KQ h1 h2 8204) := by
    intro m
    induction m using Nat.strongRecOn with
    | ind m ih =>
    intro i M1 M2 τ1 τ2 hi hM1 hM2 b1 b2 hA
    have a28 : τ1.2.2 28 = σ1.2.2 28 := b1.2 28 (by decide)
    have b28 : τ2.2.2 28 = σ2.2.2 28 := b2.2 28 (by decide)
    refine Pm_suc rfl (fun k => by rw [x_putSlice]) (fun k => by rw [x_putSlice]) (fun k1 hk1 => ?_)
    rw [b1.1 100, b2.1 100, s1, u1, show nI y - 1 = nI (y - 1) from n_sub (p := y) (q := 1) (by omega) (by omega), hM1.1, hM2.1, hM1.2.2.2.2.1, hM2.2.2.2.2.1, hM1.2.2.2.2.2, hM2.2.2.2.2.2, show nI v1 + 4 = nI (v1 + 4) from n_add (q := 4) (by omega), show nI v2 + 4 = nI (v2 + 4) from n_add (q := 4) (by omega), n_add (p := v1 + 4) (by omega), n_add (p := v2 + 4) (by omega), n_cl (p := v1 + 4 + i) (by omega), n_cl (p := v2 + 4 + i) (by omega), n_cl (p := i) (by omega), a28, b28]
    refine Pm_ite Iff.rfl (fun z _ => ?_) (fun z _ => ?_)
    · have z := (n_le (by omega) (by omega)).mp z
      refine Pm_suc rfl (fun k => by rw [x_putSlice]) (fun k => by rw [x_putSlice]) (fun k2 hk2 => ?_)
      exact c7 k2 0 i _ _ _ _ (Nat.zero_le _) (by omega) ⟨hM1.1, hM1.2.1, hM1.2.2.1, hM1.2.2.2.1, hM1.2.2.2.2.1, rfl⟩ ⟨hM2.1, hM2.2.1, hM2.2.2.1, hM2.2.2.2.1, hM2.2.2.2.2.1, rfl⟩ b1 b2 hA
    have hiy : i < y - 1 := by
      by_cases d : i < y - 1
      · exact d
      · exact absurd ((n_le (by omega) (by omega)).mpr (by omega)) z
    refine Pm_chk (fun _ _ => ?_)
    refine Pm_chk (fun _ _ => ?_)
    show Pm k1 (fun k => x_putSlice k 5 M1 (mAr τ1 51 i (σ1.2.2 28 (v1 + 4 + i)))) (fun k => x_putSlice k 5 M2 (mAr τ2 51 i (σ2.2.2 28 (v2 + 4 + i)))) _
    refine Pm_suc rfl (fun k => by rw [x_putSlice]) (fun k => by rw [x_putSlice]) (fun k2 hk2 => ?_)
    rw [hM1.2.2.2.2.1, hM2.2.2.2.2.1, hM1.2.2.2.2.2, hM2.2.2.2.2.2, n_add1]
    exact ih k2 (by omega) (i + 1) _ _ _ _ (by omega) ⟨hM1.1, hM1.2.1, hM1.2.2.1, hM1.2.2.2.1, rfl, rfl⟩ ⟨hM2.1, hM2.2.1, hM2.2.2.1, hM2.2.2.2.1, rfl, rfl⟩ (B51_w b1) (B51_w b2) (AgN_w51 hA (ca i (by omega)).symm)
  exact c4 m 0 N1 N2 σ1 σ2 (by omega) hN1 hN2 B51_rf B51_rf (fun i hi => absurd hi (Nat.not_lt_zero i))
theorem k_ptS13 {f v1 v2 x1 x2 q p y w m : Nat} (hS1 : HS g1 l1 B1 h1 σ1) (hS2 : HS g2 l2 B2 h2 σ2) (e1 : σ1.1 56 = 0) (e2 : σ2.1 56 = 0) (t1 : σ1.1 59 = nI f) (t2 : σ2.1 59 = nI f) (hf : f ≤ 177000) (hr1 : h1 + 8204 ≤ B1 + 870000) (hr2 : h2 + 8204 ≤ B2 + 870000) (hO : OE g1 g2 (σ1.2.2 28) (σ2.2.2 28) v1 v2 5 q) (hX : OE g1 g2 (σ1.2.2 28) (σ2.2.2 28) x1 x2 5 p) (s1 : σ1.1 100 = nI y) (s2 : σ1.1 101 = nI w) (u1 : σ2.1 100 = nI y) (u2 : σ2.1 101 = nI w) (hy : 1 ≤ y) (hyw : y ≤ w + 1) (hw : w ≤ q) {N1 N2 : Nat → Int32} (n1 : N1 1 = nI v1) (o1 : N2 1 = nI v2) (n4 : N1 4 = nI x1) (o4 : N2 4 = nI x2) (n5 : N1 5 = nI q) (o5 : N2 5 = nI q) (n6 : N1 6 = nI p) (o6' : N2 6 = nI p) : Pm m (fun k => x_putSlice k 13 N1 σ1) (fun k => x_putSlice k 13 N2 σ2) (KQ h1 h2 8204) := by
  obtain ⟨_, _, _, _, _, o6, o7, _, _, _, o11, o12, o13, o14, _, o16, _⟩ := hO
  obtain ⟨_, _, _, _, _, x6, x7, _, _, _, x11, x12, x13, x14, _, x16, _⟩ := hX
  have ca := o16 (by omega)
  have cx := x16 (by omega)
  have c18 : ∀ (m i c : Nat) (M1 M2 : Nat → Int32) (τ1 τ2 : MS), w ≤ i → i ≤ q → c + w = y - 1 + p + i → SLl v1 x1 q p f i M1 → SLl v2 x2 q p f i M2 → KPu g1 g2 f c σ1 σ2 τ1 τ2 → Pm m (fun k => x_putSlice k 18 M1 τ1) (fun k => x_putSlice k 18 M2 τ2) (KQ h1 h2 8204) := by
    intro m
    induction m using Nat.strongRecOn with
    | ind m ih =>
    intro i c M1 M2 τ1 τ2 hwi hi hc hM1 hM2 hK
    have a28 : τ1.2.2 28 = σ1.2.2 28 := hK.1.2.1 28 (by decide)
    have b28 : τ2.2.2 28 = σ2.2.2 28 := hK.2.1.2.1 28 (by decide)
    refine Pm_suc rfl (fun k => by rw [x_putSlice]) (fun k => by rw [x_putSlice]) (fun k1 hk1 => ?_)
    rw [hM1.1, hM2.1, hM1.2.2.1, hM2.2.2.1, hM1.2.2.2.2.2, hM2.2.2.2.2.2, show nI v1 + 4 = nI (v1 + 4) from n_add (q := 4) (by omega), show nI v2 + 4 = nI (v2 + 4) from n_add (q := 4) (by omega), n_add (p := v1 + 4) (by omega), n_add (p := v2 + 4) (by omega), n_cl (p := v1 + 4 + i) (by omega), n_cl (p := v2 + 4 + i) (by omega), a28, b28, n_add1]
    refine Pm_ite Iff.rfl (fun z _ => ?_) (fun z _ => ?_)
    · refine Pm_suc rfl (fun k => by rw [x_putSlice]) (fun k => by rw [x_putSlice]) (fun k2 hk2 => ?_)
      exact Pm_ob (k_tupP hK hS1 hS2 e1 e2 (by omega) (by omega) (by omega) (by exact hM1.2.2.2.2.1) (by exact hM2.2.2.2.2.1)) (fun r1 r2 hr => Pm_some (KQ_mo hr (by omega)))
    have hiq : i < q := by
      by_cases d : i < q
      · exact d
      · exact absurd ((n_le (by omega) (by omega)).mpr (by omega)) z
    refine Pm_chk (fun _ _ => ?_)
    exact Pm_ob (k_push hK (by omega) (ca i hiq) rfl rfl) (fun r1 r2 hr => ih k1 (by omega) (i + 1) (c + 1) _ _ _ _ (by omega) (by omega) (by omega) ⟨hM1.1, hM1.2.1, hM1.2.2.1, hM1.2.2.2.1, hM1.2.2.2.2.1, rfl⟩ ⟨hM2.1, hM2.2.1, hM2.2.2.1, hM2.2.2.2.1, hM2.2.2.2.2.1, rfl⟩ hr)
  have c16 : ∀ (m i c : Nat) (M1 M2 : Nat → Int32) (τ1 τ2 : MS), i ≤ p → c = y - 1 + i → SLl v1 x1 q p f i M1 → SLl v2 x2 q p f i M2 → KPu g1 g2 f c σ1 σ2 τ1 τ2 → Pm m (fun k => x_putSlice k 16 M1 τ1) (fun k => x_putSlice k 16 M2 τ2) (KQ h1 h2 8204) := by
    intro m
    induction m using Nat.strongRecOn with
    | ind m ih =>
    intro i c M1 M2 τ1 τ2 hi hc hM1 hM2 hK
    have a28 : τ1.2.2 28 = σ1.2.2 28 := hK.1.2.1 28 (by decide)
    have b28 : τ2.2.2 28 = σ2.2.2 28 := hK.2.1.2.1 28 (by decide)
    refine Pm_suc rfl (fun k => by rw [x_putSlice]) (fun k => by rw [x_putSlice]) (fun k1 hk1 => ?_)
    rw [hM1.2.1, hM2.2.1, hM1.2.2.2.1, hM2.2.2.2.1, hM1.2.2.2.2.2, hM2.2.2.2.2.2, show nI x1 + 4 = nI (x1 + 4) from n_add (q := 4) (by omega), show nI x2 + 4 = nI (x2 + 4) from n_add (q := 4) (by omega), n_add (p := x1 + 4) (by omega), n_add (p := x2 + 4) (by omega), n_cl (p := x1 + 4 + i) (by omega), n_cl (p := x2 + 4 + i) (by omega), a28, b28, n_add1]
    refine Pm_ite Iff.rfl (fun z _ => ?_) (fun z _ => ?_)
    · have z := (n_le (by omega) (by omega)).mp z
      refine Pm_suc rfl (fun k => by rw [x_putSlice]) (fun k => by rw [x_putSlice]) (fun k2 hk2 => ?_)
      rw [hK.1.1 101 (by decide), hK.2.1.1 101 (by decide), s2, u2]
      exact c18 k2 w c _ _ _ _ (Nat.le_refl _) hw (by omega) ⟨hM1.1, hM1.2.1, hM1.2.2.1, hM1.2.2.2.1, hM1.2.2.2.2.1, rfl⟩ ⟨hM2.1, hM2.2.1, hM2.2.2.1, hM2.2.2.2.1, hM2.2.2.2.2.1, rfl⟩ hK
    have hip : i < p := by
      by_cases d : i < p
      · exact d
      · exact absurd ((n_le (by omega) (by omega)).mpr (by omega)) z
    refine Pm_chk (fun _ _ => ?_)
    exact Pm_ob (k_push hK (by omega) (cx i hip) rfl rfl) (fun r1 r2 hr => ih k1 (by omega) (i + 1) (c + 1) _ _ _ _ (by omega) (by omega) ⟨hM1.1, hM1.2.1, hM1.2.2.1, hM1.2.2.2.1, hM1.2.2.2.2.1, rfl⟩ ⟨hM2.1, hM2.2.1, hM2.2.2.1, hM2.2.2.2.1, hM2.2.2.2.2.1, rfl⟩ hr)
  have c14 : ∀ (m i : Nat) (M1 M2 : Nat → Int32) (τ1 τ2 : MS), i + 1 ≤ y → SLl v1 x1 q p f i M1 → SLl v2 x2 q p f i M2 → KPu g1 g2 f i σ1 σ2 τ1 τ2 → Pm m (fun k => x_putSlice k 14 M1 τ1) (fun k => x_putSlice k 14 M2 τ2) (KQ h1 h2 8204) := by
    intro m
    induction m using Nat.strongRecOn with
    | ind m ih =>
    intro i M1 M2 τ1 τ2 hi hM1 hM2 hK
    have a28 : τ1.2.2 28 = σ1.2.2 28 := hK.1.2.1 28 (by decide)
    have b28 : τ2.2.2 28 = σ2.2.2 28 := hK.2.1.2.1 28 (by decide)
    refine Pm_suc rfl (fun k => by rw [x_putSlice]) (fun k => by rw [x_putSlice]) (fun k1 hk1 => ?_)
    rw [hK.1.1 100 (by decide), hK.2.1.1 100 (by decide), s1, u1, show nI y - 1 = nI (y - 1) from n_sub (p := y) (q := 1) (by omega) (by omega), hM1.1, hM2.1, hM1.2.2.2.2.2, hM2.2.2.2.2.2, show nI v1 + 4 = nI (v1 + 4) from n_add (q := 4) (by omega), show nI v2 + 4 = nI (v2 + 4) from n_add (q := 4) (by omega), n_add (p := v1 + 4) (by omega), n_add (p := v2 + 4) (by omega), n_cl (p := v1 + 4 + i) (by omega), n_cl (p := v2 + 4 + i) (by omega), a28, b28, n_add1]
    refine Pm_ite Iff.rfl (fun z _ => ?_) (fun z _ => ?_)
    · have z := (n_le (by omega) (by omega)).mp z
      refine Pm_suc rfl (fun k => by rw [x_putSlice]) (fun k => by rw [x_putSlice]) (fun k2 hk2 => ?_)
      exact c16 k2 0 i _ _ _ _ (Nat.zero_le _) (by omega) ⟨hM1.1, hM1.2.1, hM1.2.2.1, hM1.2.2.2.1, hM1.2.2.2.2.1, rfl⟩ ⟨hM2.1, hM2.2.1, hM2.2.2.1, hM2.2.2.2.1, hM2.2.2.2.2.1, rfl⟩ hK
    have hiy : i < y - 1 := by
      by_cases d : i < y - 1
      · exact d
      · exact absurd ((n_le (by omega) (by omega)).mpr (by omega)) z
    refine Pm_chk (fun _ _ => ?_)
    exact Pm_ob (k_push hK (by omega) (ca i (by omega)) rfl rfl) (fun r1 r2 hr => ih k1 (by omega) (i + 1) _ _ _ _ (by omega) ⟨hM1.1, hM1.2.1, hM1.2.2.1, hM1.2.2.2.1, hM1.2.2.2.2.1, rfl⟩ ⟨hM2.1, hM2.2.1, hM2.2.2.1, hM2.2.2.2.1, hM2.2.2.2.2.1, rfl⟩ hr)
  refine Pm_suc rfl (fun k => by rw [x_putSlice]) (fun k => by rw [x_putSlice]) (fun m1 _ => ?_)
  rw [t1, t2]
  exact c14 m1 0 _ _ _ _ (by omega) ⟨n1, n4, n5, n6, rfl, rfl⟩ ⟨o1, o4, o5, o6', rfl, rfl⟩ (KPu_0 t1 t2)
theorem k_putSlice {f v1 v2 a1 a2 b1 b2 x1 x2 : Nat} (hS1 : HS g1 l1 B1 h1 σ1) (hS2 : HS g2 l2 B2 h2 σ2) (e1 : σ1.1 56 = 0) (e2 : σ2.1 56 = 0) (t1 : σ1.1 59 = nI f) (t2 : σ2.1 59 = nI f) (hf : f ≤ 177000) (hr1 : h1 + 8204 ≤ B1 + 870000) (hr2 : h2 + 8204 ≤ B2 + 870000) (hv1 : v1 < 3 ∨ g1 v1) (hv2 : v2 < 3 ∨ g2 v2) (hv : EVb (σ1.2.2 28) (σ2.2.2 28) v1 v2) (ha1 : a1 < 3 ∨ g1 a1) (ha2 : a2 < 3 ∨ g2 a2) (va : EVb (σ1.2.2 28) (σ2.2.2 28) a1 a2) (hb1 : b1 < 3 ∨ g1 b1) (hb2 : b2 < 3 ∨ g2 b2) (vb : EVb (σ1.2.2 28) (σ2.2.2 28) b1 b2) (hx1 : x1 < 3 ∨ g1 x1) (hx2 : x2 < 3 ∨ g2 x2) (hx : EVb (σ1.2.2 28) (σ2.2.2 28) x1 x2) {L1 L2 : Nat → Int32} (d1 : L1 1 = nI v1) (f1 : L2 1 = nI v2) (d2 : L1 2 = nI a1) (f2 : L2 2 = nI a2) (d3 : L1 3 = nI b1) (f3 : L2 3 = nI b2) (d4 : L1 4 = nI x1) (f4 : L2 4 = nI x2) : Pm n (fun k => x_putSlice k 0 L1 σ1) (fun k => x_putSlice k 0 L2 σ2) (KQ h1 h2 8204) := by
  refine Pm_suc rfl (fun k => by rw [x_putSlice]) (fun k => by rw [x_putSlice]) (fun m1 _ => ?_)
  refine Pm_ob (k_isSlice hS1 hS2 hv1 hv2 hv ha1 ha2 va hb1 hb2 vb (by exact d1) (by exact f1) (by exact d2) (by exact f2) (by exact d3) (by exact f3)) (fun r1 r2 hr => ?_)
  rcases hr with ⟨hr1, hr2⟩ | ⟨q1, q2, gv, hk, x, z, y, w, hy, hw, hx', hz, s1, s2⟩
  · rw [hr1, hr2]
    exact Pm_ite Iff.rfl (fun _ _ => Pm_some (k_er (by decide) hS1 hS2)) (fun w _ => absurd rfl w)
  rw [q1, q2, s1, s2]
  refine Pm_ite Iff.rfl (fun w _ => absurd (show (1 : Int32) = 0 from w) (by decide)) (fun _ _ => ?_)
  have hT1 : HS g1 l1 B1 h1 (mSc (mSc σ1 100 x) 101 z) := HS_c hS1 rfl rfl rfl
  have hT2 : HS g2 l2 B2 h2 (mSc (mSc σ2 100 x) 101 z) := HS_c hS2 rfl rfl rfl
  have e1' : (mSc (mSc σ1 100 x) 101 z).1 56 = 0 := e1
  have e2' : (mSc (mSc σ2 100 x) 101 z).1 56 = 0 := e2
  have t1' : (mSc (mSc σ1 100 x) 101 z).1 59 = nI f := t1
  have t2' : (mSc (mSc σ2 100 x) 101 z).1 59 = nI f := t2
  have hv' : EVb ((mSc (mSc σ1 100 x) 101 z).2.2 28) ((mSc (mSc σ2 100 x) 101 z).2.2 28) v1 v2 := hv
  have hxx : EVb ((mSc (mSc σ1 100 x) 101 z).2.2 28) ((mSc (mSc σ2 100 x) 101 z).2.2 28) x1 x2 := hx
  have hk' : kdN ((mSc (mSc σ1 100 x) 101 z).2.2 28) v1 = 4 ∨ kdN ((mSc (mSc σ1 100 x) 101 z).2.2 28) v1 = 5 := hk
  have y1 : (mSc (mSc σ1 100 x) 101 z).1 100 = nI y ∨ (mSc (mSc σ1 100 x) 101 z).1 100 = - nI y := hx'
  have z1 : (mSc (mSc σ1 100 x) 101 z).1 101 = nI w ∨ (mSc (mSc σ1 100 x) 101 z).1 101 = - nI w := hz
  have y2 : (mSc (mSc σ2 100 x) 101 z).1 100 = nI y ∨ (mSc (mSc σ2 100 x) 101 z).1 100 = - nI y := hx'
  have z2 : (mSc (mSc σ2 100 x) 101 z).1 101 = nI w ∨ (mSc (mSc σ2 100 x) 101 z).1 101 = - nI w := hz
  have w1 : (mSc (mSc σ1 100 x) 101 z).1 100 = (mSc (mSc σ2 100 x) 101 z).1 100 := rfl
  have w2 : (mSc (mSc σ1 100 x) 101 z).1 101 = (mSc (mSc σ2 100 x) 101 z).1 101 := rfl
  generalize mSc (mSc σ1 100 x) 101 z = ρ1 at hT1 e1' t1' hv' hxx hk' y1 z1 w1 w2
  generalize mSc (mSc σ2 100 x) 101 z = ρ2 at hT2 e2' t2' hv' hxx y2 z2 w1 w2
  have kx := kdN_6 hT1 hx1
  obtain ⟨k, q, hO⟩ := OE_of hT1 hT2 gv hv2 hv'
  have hO0 := hO
  obtain ⟨_, _, _, _, _, o6, o7, _, o9, o10, o11, o12, o13, o14, _, o16, o17⟩ := hO
  refine Pm_suc rfl (fun k => by rw [x_putSlice]) (fun k => by rw [x_putSlice]) (fun m2 _ => ?_)
  refine Pm_ob (Pm_t2 (s_kind hT1 hx1 (by exact d4)) (fun k => f_kind k _ _ _) (s_kind hT2 hx2 (by exact f4)) (fun k => f_kind k _ _ _)) (fun r1 r2 hr => ?_)
  rw [hr.1, hr.2, (EVb_sz hxx).2.2]
  refine Pm_ob (Pm_t2 (s_kind hT1 hv1 (by exact d1)) (fun k => f_kind k _ _ _) (s_kind hT2 hv2 (by exact f1)) (fun k => f_kind k _ _ _)) (fun r1 r2 hr => ?_)
  rw [hr.1, hr.2, (EVb_sz hv').2.2]
  refine Pm_ite Iff.rfl (fun e _ => ?_) (fun _ _ => Pm_ob (k_wrongKind hT1 hT2 _ _) (fun r1 r2 hr => Pm_some hr))
  have e := (n_eq (by omega) (by omega)).mp e
  obtain ⟨k', p, hX⟩ := OE_of hT1 hT2 (kdN_ge hT1 hx1 (by omega)) hx2 hxx
  have hX0 := hX
  obtain ⟨_, _, _, _, _, x6, x7, _, x9, x10, x11, x12, x13, x14, _, x16, x17⟩ := hX
  have ekk : k' = k := by omega
  subst ekk
  refine Pm_suc rfl (fun k => by rw [x_putSlice]) (fun k => by rw [x_putSlice]) (fun m3 _ => ?_)
  refine Pm_ob (Pm_un (s_isSliceIn hT1 o11 o6 o13 hy hw y1 z1 (by exact d1)) (fun k => f_isSliceIn k _ _ _) (s_isSliceIn hT2 o12 o6 o14 hy hw y2 z2 (by exact f1)) (fun k => f_isSliceIn k _ _ _) (k_isSliceIn o11 o12 o13 o14 w1 w2 (by exact d1) (by exact f1))) (fun u1 u2 hu => ?_)
  obtain ⟨hu0, hu1, hu2⟩ := hu
  rcases hu1 with hu1 | ⟨hu1, q11, q12, q13, q14, q15⟩
  · rcases hu2 with hu2 | ⟨hu2, _⟩
    · rw [hu1, hu2]
      exact Pm_ite Iff.rfl (fun _ _ => Pm_some (k_er (by decide) hT1 hT2)) (fun w _ => absurd rfl w)
    · rw [hu1, hu2] at hu0
      exact absurd hu0 (show ¬ (0 : Int32) = 1 by decide)
  rcases hu2 with hu2 | ⟨hu2, q21, q22, _, _, _⟩
  · rw [hu1, hu2] at hu0
    exact absurd hu0 (show ¬ (1 : Int32) = 0 by decide)
  rw [hu1, hu2]
  refine Pm_ite Iff.rfl (fun w _ => absurd (show (1 : Int32) = 0 from w) (by decide)) (fun _ _ => ?_)
  show Pm m3 (fun k => x_putSlice k 3 L1 ρ1) (fun k => x_putSlice k 3 L2 ρ2) _
  refine Pm_suc rfl (fun k => by rw [x_putSlice]) (fun k => by rw [x_putSlice]) (fun m4 _ => ?_)
  rw [d1, f1, d4, f4, n_add1, n_add1, n_add1, n_add1, n_cl (p := v1) (by omega), n_cl (p := v2) (by omega), n_cl (p := v1 + 1) (by omega), n_cl (p := v2 + 1) (by omega), n_cl (p := x1 + 1) (by omega), n_cl (p := x2 + 1) (by omega), o9, o10, o11, o12, x11, x12]
  refine Pm_chk (fun _ _ => ?_)
  refine Pm_chk (fun _ _ => ?_)
  refine Pm_chk (fun _ _ => ?_)
  refine Pm_ite Iff.rfl (fun c _ => ?_) (fun c _ => ?_)
  · have c := (n_eq (q := 4) (by omega) (by decide)).mp c
    subst c
    exact k_ptS4 hT1 hT2 e1' e2' (by omega) (by omega) hO0 hX0 q11 q12 q21 q22 q13 q14 q15 ⟨d1, d4, rfl, rfl, rfl, rfl⟩ ⟨f1, f4, rfl, rfl, rfl, rfl⟩
  · have c5 : k' = 5 := by
      have : ¬ k' = 4 := fun e => c (by rw [e]; rfl)
      omega
    subst c5
    exact k_ptS13 hT1 hT2 e1' e2' t1' t2' hf hr1 hr2 hO0 hX0 q11 q12 q21 q22 q13 q14 q15 d1 f1 d4 f4 rfl rfl rfl rfl
end KSL
