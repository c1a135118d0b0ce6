/-! Two runs side by side (reference): quotients and remainders. -/
def DA (σ1 σ2 : MS) (na nb r : Nat) (τ1 τ2 : MS) : Prop := NF σ1 τ1 ∧ NF σ2 τ2 ∧ τ1.1 84 = nI na ∧ τ2.1 84 = nI na ∧ τ1.1 85 = nI nb ∧ τ2.1 85 = nI nb ∧ τ1.1 89 = nI na ∧ τ2.1 89 = nI na ∧ τ1.1 90 = nI r ∧ τ2.1 90 = nI r ∧ AgN (τ1.2.2 42) (τ2.2.2 42) na ∧ AgN (τ1.2.2 43) (τ2.2.2 43) nb ∧ AgN (τ1.2.2 45) (τ2.2.2 45) na ∧ AgN (τ1.2.2 46) (τ2.2.2 46) r
section KDV
variable {g1 g2 : Nat → Prop} {l1 l2 : List Nat} {B1 h1 B2 h2 n : Nat} {σ1 σ2 : MS}
theorem k_cmpR46 {p q : Nat} (hp : p ≤ 140) (hpq : p ≤ 140) (hq : q ≤ 140) (hA : AgN (σ1.2.2 46) (σ2.2.2 46) p) (hB : AgN (σ1.2.2 43) (σ2.2.2 43) q) {L1 L2 : Nat → Int32} (e1 : L1 1 = nI p) (e2 : L2 1 = nI p) (f1 : L1 3 = nI q) (f2 : L2 3 = nI q) : Pm n (fun k => x_compareRows__46__43 k 0 L1 σ1) (fun k => x_compareRows__46__43 k 0 L2 σ2) (fun r1 r2 => r1.1 = r2.1 ∧ r1.2 = σ1 ∧ r2.2 = σ2) := by
  have lp : ∀ (m i : Nat) (N1 N2 : Nat → Int32), i ≤ p → N1 4 = N2 4 → (N1 4 = 0 → p = q) → N1 5 = nI i - 1 → N2 5 = nI i - 1 → Pm m (fun k => x_compareRows__46__43 k 1 N1 σ1) (fun k => x_compareRows__46__43 k 1 N2 σ2) (fun r1 r2 => r1.1 = r2.1 ∧ r1.2 = σ1 ∧ r2.2 = σ2) := by
    intro m
    induction m using Nat.strongRecOn with
    | ind m ih =>
    intro i N1 N2 hi n4 hpq n5 o5
    have b2 : ∀ m', Pm m' (fun k => x_compareRows__46__43 k 2 N1 σ1) (fun k => x_compareRows__46__43 k 2 N2 σ2) (fun r1 r2 => r1.1 = r2.1 ∧ r1.2 = σ1 ∧ r2.2 = σ2) := fun m' => by
      refine Pm_suc rfl (fun k => by rw [x_compareRows__46__43]) (fun k => by rw [x_compareRows__46__43]) (fun m'' _ => ?_)
      exact Pm_some ⟨n4, rfl, rfl⟩
    refine Pm_suc rfl (fun k => by rw [x_compareRows__46__43]) (fun k => by rw [x_compareRows__46__43]) (fun m1 hm1 => ?_)
    rw [n5, o5]
    refine Pm_ite Iff.rfl (fun _ _ => b2 m1) (fun z _ => ?_)
    refine Pm_ite (by rw [n4]) (fun z4 _ => ?_) (fun _ _ => b2 m1)
    have hi1 : 1 ≤ i := by
      by_cases e : i = 0
      · exact absurd (by rw [e]; decide) z
      · omega
    obtain ⟨j, rfl⟩ : ∃ j, i = j + 1 := ⟨i - 1, by omega⟩
    rw [show nI (j + 1) - 1 = nI j from n_sub1 (by omega), n_cl (p := j) (by omega)]
    have epq := hpq z4
    refine Pm_chk (fun _ _ => ?_)
    refine Pm_chk (fun _ _ => ?_)
    refine ih m1 (by omega) j _ _ (by omega) ?_ (fun _ => epq) ?_ ?_
    · show σ1.2.2 46 j - σ1.2.2 43 j = σ2.2.2 46 j - σ2.2.2 43 j
      rw [hA j (by omega), hB j (by omega)]
    · show nI j + (-1) = nI j - 1
      exact (Int32.sub_eq_add_neg _ _).symm
    · show nI j + (-1) = nI j - 1
      exact (Int32.sub_eq_add_neg _ _).symm
  refine Pm_suc rfl (fun k => by rw [x_compareRows__46__43]) (fun k => by rw [x_compareRows__46__43]) (fun m1 _ => ?_)
  rw [e1, e2, f1, f2]
  exact lp m1 p _ _ (Nat.le_refl _) rfl (fun z => (n_sub0 (by omega) (by omega)).mp z) rfl rfl
theorem DA_46 {na nb r i : Nat} {τ1 τ2 : MS} {x y : Int32} (h : DA σ1 σ2 na nb r τ1 τ2) (e : x = y) : DA σ1 σ2 na nb r (mAr τ1 46 i x) (mAr τ2 46 i y) := by
  obtain ⟨a1, a2, a3, a4, a5, a6, a7, a8, a9, a10, a11, a12, a13, a14⟩ := h
  refine ⟨NF_tr a1 (NF_ar (by omega)), NF_tr a2 (NF_ar (by omega)), a3, a4, a5, a6, a7, a8, a9, a10, ?_, ?_, ?_, ?_⟩
  · rw [mAr_o (by decide), mAr_o (by decide)]; exact a11
  · rw [mAr_o (by decide), mAr_o (by decide)]; exact a12
  · rw [mAr_o (by decide), mAr_o (by decide)]; exact a13
  · rw [mAr_s, mAr_s]; exact AgN_st a14 e
theorem DA_45 {na nb r i : Nat} {τ1 τ2 : MS} {x y : Int32} (h : DA σ1 σ2 na nb r τ1 τ2) (e : x = y) : DA σ1 σ2 na nb r (mAr τ1 45 i x) (mAr τ2 45 i y) := by
  obtain ⟨a1, a2, a3, a4, a5, a6, a7, a8, a9, a10, a11, a12, a13, a14⟩ := h
  refine ⟨NF_tr a1 (NF_ar (by omega)), NF_tr a2 (NF_ar (by omega)), a3, a4, a5, a6, a7, a8, a9, a10, ?_, ?_, ?_, ?_⟩
  · rw [mAr_o (by decide), mAr_o (by decide)]; exact a11
  · rw [mAr_o (by decide), mAr_o (by decide)]; exact a12
  · rw [mAr_s, mAr_s]; exact AgN_st a13 e
  · rw [mAr_o (by decide), mAr_o (by decide)]; exact a14
theorem DA_90 {na nb r r' : Nat} {τ1 τ2 : MS} (h : DA σ1 σ2 na nb r τ1 τ2) (hr : AgN (τ1.2.2 46) (τ2.2.2 46) r') : DA σ1 σ2 na nb r' (mSc τ1 90 (nI r')) (mSc τ2 90 (nI r')) := by
  obtain ⟨a1, a2, a3, a4, a5, a6, a7, a8, a9, a10, a11, a12, a13, a14⟩ := h
  exact ⟨NF_tr a1 (NF_sc (by omega)), NF_tr a2 (NF_sc (by omega)), a3, a4, a5, a6, a7, a8, rfl, rfl, a11, a12, a13, hr⟩
theorem n_lt140 {c : Nat} (hc : c ≤ 140) (h : ¬ (nI c < 0 ∨ 140 ≤ (nI c).toNatClampNeg)) : c < 140 := by
  rw [n_cl (by omega)] at h
  by_cases e : c < 140
  · exact e
  · exact absurd (Or.inr (by omega)) h
/-- rows are divided, bit by bit -/
theorem k_dr6 {na nb : Nat} (hna : na ≤ 64) (hnb : nb ≤ 64) : ∀ (m c r : Nat) (N : Nat → Int32) (τ1 τ2 : MS), c ≤ 16 * na → r ≤ 140 → N 1 = nI c - 1 → DA σ1 σ2 na nb r τ1 τ2 → Pm m (fun k => x_divideRows k 6 N τ1) (fun k => x_divideRows k 6 N τ2) (fun r1 r2 => ∃ r, r ≤ 140 ∧ DA σ1 σ2 na nb r r1.2 r2.2) := by
  intro m
  induction m using Nat.strongRecOn with
  | ind m ih =>
  intro c r N τ1 τ2 hc hr n1 hD
  refine Pm_suc rfl (fun k => by rw [x_divideRows]) (fun k => by rw [x_divideRows]) (fun k1 hk1 => ?_)
  rw [n1]
  refine Pm_ite Iff.rfl (fun _ _ => ?_) (fun z _ => ?_)
  · refine Pm_suc rfl (fun k => by rw [x_divideRows]) (fun k => by rw [x_divideRows]) (fun k2 hk2 => ?_)
    exact Pm_some ⟨r, hr, hD⟩
  have hc1 : 1 ≤ c := by
    by_cases e : c = 0
    · exact absurd (by rw [e]; decide) z
    · omega
  obtain ⟨b, rfl⟩ : ∃ b, c = b + 1 := ⟨c - 1, by omega⟩
  have eb : nI (b + 1) - 1 = nI b := n_sub1 (by omega)
  rw [eb] at n1
  rw [eb, n_shr4 (by omega), n_cl (p := b / 16) (by omega)]
  have hb16 : b / 16 < na := by omega
  have b20 : ∀ (m' r : Nat) (M : Nat → Int32) (υ1 υ2 : MS), m' < m → r ≤ 140 → M 1 = nI b → DA σ1 σ2 na nb r υ1 υ2 → Pm m' (fun k => x_divideRows k 20 M υ1) (fun k => x_divideRows k 20 M υ2) (fun r1 r2 => ∃ r, r ≤ 140 ∧ DA σ1 σ2 na nb r r1.2 r2.2) := by
    intro m' r M υ1 υ2 hm' hr m1 hD
    refine Pm_suc rfl (fun k => by rw [x_divideRows]) (fun k => by rw [x_divideRows]) (fun k2 hk2 => ?_)
    exact ih k2 (by omega) b r _ _ _ (by omega) hr (by show M 1 + (-1) = _; rw [m1]; exact (Int32.sub_eq_add_neg _ _).symm) hD
  have b19 : ∀ (m' r : Nat) (M : Nat → Int32) (υ1 υ2 : MS), m' < m → r ≤ 140 → M 1 = nI b → DA σ1 σ2 na nb r υ1 υ2 → Pm m' (fun k => x_divideRows k 19 M υ1) (fun k => x_divideRows k 19 M υ2) (fun r1 r2 => ∃ r, r ≤ 140 ∧ DA σ1 σ2 na nb r r1.2 r2.2) := by
    intro m' r M υ1 υ2 hm' hr m1 hD
    refine Pm_suc rfl (fun k => by rw [x_divideRows]) (fun k => by rw [x_divideRows]) (fun k2 hk2 => ?_)
    rw [m1, n_shr4 (by omega), n_cl (p := b / 16) (by omega)]
    refine Pm_chk (fun _ _ => ?_)
    refine Pm_chk (fun _ _ => ?_)
    have e45 : υ1.2.2 45 (b / 16) = υ2.2.2 45 (b / 16) := hD.2.2.2.2.2.2.2.2.2.2.2.2.1 _ hb16
    rw [e45]
    show Pm k2 (fun k => x_divideRows k 20 M (mAr υ1 45 (b / 16) _)) (fun k => x_divideRows k 20 M (mAr υ2 45 (b / 16) _)) _
    exact b20 k2 r _ _ _ (by omega) hr m1 (DA_45 hD rfl)
  have b18 : ∀ (r m' : Nat) (M : Nat → Int32) (υ1 υ2 : MS), m' < m → r ≤ 140 → M 1 = nI b → DA σ1 σ2 na nb r υ1 υ2 → Pm m' (fun k => x_divideRows k 18 M υ1) (fun k => x_divideRows k 18 M υ2) (fun r1 r2 => ∃ r, r ≤ 140 ∧ DA σ1 σ2 na nb r r1.2 r2.2) := by
    intro r
    induction r with
    | zero =>
      intro m' M υ1 υ2 hm' hr m1 hD
      have x1 := hD.2.2.2.2.2.2.2.2.1
      have x2 := hD.2.2.2.2.2.2.2.2.2.1
      refine Pm_suc rfl (fun k => by rw [x_divideRows]) (fun k => by rw [x_divideRows]) (fun k2 hk2 => ?_)
      rw [x1, x2]
      exact Pm_ite Iff.rfl (fun _ _ => b19 k2 0 _ _ _ (by omega) hr m1 hD) (fun w _ => absurd (by decide) w)
    | succ r ihr =>
      intro m' M υ1 υ2 hm' hr m1 hD
      have x1 := hD.2.2.2.2.2.2.2.2.1
      have x2 := hD.2.2.2.2.2.2.2.2.2.1
      have x3 := hD.2.2.2.2.2.2.2.2.2.2.2.2.2
      refine Pm_suc rfl (fun k => by rw [x_divideRows]) (fun k => by rw [x_divideRows]) (fun k2 hk2 => ?_)
      rw [x1, x2, show nI (r + 1) - 1 = nI r from n_sub1 (by omega), n_cl (p := r) (by omega)]
      refine Pm_ite Iff.rfl (fun _ _ => b19 k2 (r + 1) _ _ _ (by omega) hr m1 hD) (fun _ _ => ?_)
      refine Pm_chk (fun _ _ => ?_)
      refine Pm_ite (by rw [x3 r (by omega)]) (fun _ _ => ?_) (fun _ _ => b19 k2 (r + 1) _ _ _ (by omega) hr m1 hD)
      show Pm k2 (fun k => x_divideRows k 18 M (mSc υ1 90 (nI r))) (fun k => x_divideRows k 18 M (mSc υ2 90 (nI r))) _
      exact ihr k2 M _ _ (by omega) (by omega) m1 (DA_90 hD (AgN_mo x3 (by omega)))
  have b12 : ∀ (m' r i : Nat) (M : Nat → Int32) (υ1 υ2 : MS), m' < m → r ≤ 140 → i ≤ r → M 1 = nI b → M 4 = nI i → DA σ1 σ2 na nb r υ1 υ2 → Pm m' (fun k => x_divideRows k 12 M υ1) (fun k => x_divideRows k 12 M υ2) (fun r1 r2 => ∃ r, r ≤ 140 ∧ DA σ1 σ2 na nb r r1.2 r2.2) := by
    intro m'
    induction m' using Nat.strongRecOn with
    | ind m' ihi =>
    intro r i M υ1 υ2 hm' hr hi m1 m4 hD
    have x1 := hD.2.2.2.2.2.2.2.2.1
    have x2 := hD.2.2.2.2.2.2.2.2.2.1
    have x3 := hD.2.2.2.2.2.2.2.2.2.2.2.2.2
    have y1 := hD.2.2.2.2.1
    have y2 := hD.2.2.2.2.2.1
    have y3 := hD.2.2.2.2.2.2.2.2.2.2.2.1
    refine Pm_suc rfl (fun k => by rw [x_divideRows]) (fun k => by rw [x_divideRows]) (fun k2 hk2 => ?_)
    rw [x1, x2, y1, y2, m4, n_cl (p := i) (by omega)]
    refine Pm_ite Iff.rfl (fun _ _ => b18 r k2 _ _ _ (by omega) hr m1 hD) (fun y _ => ?_)
    have hir : i < r := by
      by_cases e : r ≤ i
      · exact absurd ((n_le (by omega) (by omega)).mpr e) y
      · omega
    have b16 : ∀ (m3 : Nat) (O : Nat → Int32), m3 < m' → O 1 = nI b → O 4 = nI i → Pm m3 (fun k => x_divideRows k 16 O υ1) (fun k => x_divideRows k 16 O υ2) (fun r1 r2 => ∃ r, r ≤ 140 ∧ DA σ1 σ2 na nb r r1.2 r2.2) := by
      intro m3 O hm3 o1 o4
      refine Pm_suc rfl (fun k => by rw [x_divideRows]) (fun k => by rw [x_divideRows]) (fun k3 hk3 => ?_)
      rw [o4, n_cl (p := i) (by omega)]
      refine Pm_chk (fun _ _ => ?_)
      show Pm k3 (fun k => x_divideRows k 17 _ (mAr υ1 46 i (O 5 &&& 65535))) (fun k => x_divideRows k 17 _ (mAr υ2 46 i (O 5 &&& 65535))) _
      refine Pm_suc rfl (fun k => by rw [x_divideRows]) (fun k => by rw [x_divideRows]) (fun k4 hk4 => ?_)
      exact ihi k4 (by omega) r (i + 1) _ _ _ (by omega) hr (by omega) o1 (by show O 4 + 1 = _; rw [o4, n_add1]) (DA_46 hD rfl)
    have b14 : ∀ (m3 : Nat) (O : Nat → Int32), m3 < m' → O 1 = nI b → O 4 = nI i → Pm m3 (fun k => x_divideRows k 14 O υ1) (fun k => x_divideRows k 14 O υ2) (fun r1 r2 => ∃ r, r ≤ 140 ∧ DA σ1 σ2 na nb r r1.2 r2.2) := by
      intro m3 O hm3 o1 o4
      refine Pm_suc rfl (fun k => by rw [x_divideRows]) (fun k => by rw [x_divideRows]) (fun k3 hk3 => ?_)
      refine Pm_ite Iff.rfl (fun _ _ => ?_) (fun _ _ => b16 k3 _ (by omega) o1 o4)
      refine Pm_suc rfl (fun k => by rw [x_divideRows]) (fun k => by rw [x_divideRows]) (fun k4 hk4 => ?_)
      exact b16 k4 _ (by omega) o1 o4
    refine Pm_chk (fun _ _ => ?_)
    rw [x3 i hir]
    refine Pm_ite Iff.rfl (fun _ _ => ?_) (fun w _ => ?_)
    · refine Pm_suc rfl (fun k => by rw [x_divideRows]) (fun k => by rw [x_divideRows]) (fun k3 hk3 => ?_)
      exact b14 k3 _ (by omega) m1 m4
    · have hib : i < nb := by
        by_cases e : nb ≤ i
        · exact absurd ((n_le (by omega) (by omega)).mpr e) w
        · omega
      rw [y3 i hib]
      refine Pm_chk (fun _ _ => ?_)
      exact b14 k2 _ (by omega) m1 m4
  have b11 : ∀ (m' r : Nat) (M : Nat → Int32) (υ1 υ2 : MS), m' < m → r ≤ 140 → M 1 = nI b → DA σ1 σ2 na nb r υ1 υ2 → Pm m' (fun k => x_divideRows k 11 M υ1) (fun k => x_divideRows k 11 M υ2) (fun r1 r2 => ∃ r, r ≤ 140 ∧ DA σ1 σ2 na nb r r1.2 r2.2) := by
    intro m' r M υ1 υ2 hm' hr m1 hD
    have x1 := hD.2.2.2.2.2.2.2.2.1
    have x2 := hD.2.2.2.2.2.2.2.2.2.1
    have x3 := hD.2.2.2.2.2.2.2.2.2.2.2.2.2
    have y1 := hD.2.2.2.2.1
    have y2 := hD.2.2.2.2.2.1
    have y3 := hD.2.2.2.2.2.2.2.2.2.2.2.1
    refine Pm_suc rfl (fun k => by rw [x_divideRows]) (fun k => by rw [x_divideRows]) (fun k2 hk2 => ?_)
    rw [x1, x2, y1, y2]
    refine Pm_ob (k_cmpR46 (p := r) (q := nb) (by omega) (by omega) (by omega) x3 y3 rfl rfl rfl rfl) (fun r1 r2 hr' => ?_)
    obtain ⟨hr0, hr1, hr2⟩ := hr'
    rw [hr0, hr1, hr2]
    refine Pm_ite Iff.rfl (fun _ _ => b20 k2 r _ _ _ (by omega) hr m1 hD) (fun _ _ => ?_)
    exact b12 k2 r 0 _ _ _ (by omega) hr (Nat.zero_le _) m1 rfl hD
  have b7 : ∀ (m' i : Nat) (M : Nat → Int32) (υ1 υ2 : MS), m' < m → i ≤ r → M 1 = nI b → M 3 = nI i → DA σ1 σ2 na nb r υ1 υ2 → Pm m' (fun k => x_divideRows k 7 M υ1) (fun k => x_divideRows k 7 M υ2) (fun r1 r2 => ∃ r, r ≤ 140 ∧ DA σ1 σ2 na nb r r1.2 r2.2) := by
    intro m'
    induction m' using Nat.strongRecOn with
    | ind m' ihi =>
    intro i M υ1 υ2 hm' hi m1 m3 hD
    have x1 := hD.2.2.2.2.2.2.2.2.1
    have x2 := hD.2.2.2.2.2.2.2.2.2.1
    have x3 := hD.2.2.2.2.2.2.2.2.2.2.2.2.2
    refine Pm_suc rfl (fun k => by rw [x_divideRows]) (fun k => by rw [x_divideRows]) (fun k2 hk2 => ?_)
    rw [x1, x2, m3, n_cl (p := i) (by omega)]
    refine Pm_ite Iff.rfl (fun _ _ => ?_) (fun y _ => ?_)
    · refine Pm_suc rfl (fun k => by rw [x_divideRows]) (fun k => by rw [x_divideRows]) (fun k3 hk3 => ?_)
      rw [x1, x2]
      refine Pm_ite Iff.rfl (fun _ _ => b11 k3 r _ _ _ (by omega) hr m1 hD) (fun _ _ => ?_)
      refine Pm_chk (fun z _ => ?_)
      have hr140 := n_lt140 (by omega) z
      rw [n_cl (p := r) (by omega)]
      show Pm k3 (fun k => x_divideRows k 10 M (mAr υ1 46 r (M 2))) (fun k => x_divideRows k 10 M (mAr υ2 46 r (M 2))) _
      refine Pm_suc rfl (fun k => by rw [x_divideRows]) (fun k => by rw [x_divideRows]) (fun k4 hk4 => ?_)
      rw [show (mAr υ1 46 r (M 2)).1 90 + 1 = nI (r + 1) by show υ1.1 90 + 1 = _; rw [x1, n_add1], show (mAr υ2 46 r (M 2)).1 90 + 1 = nI (r + 1) by show υ2.1 90 + 1 = _; rw [x2, n_add1]]
      show Pm k4 (fun k => x_divideRows k 11 M (mSc (mAr υ1 46 r (M 2)) 90 (nI (r + 1)))) (fun k => x_divideRows k 11 M (mSc (mAr υ2 46 r (M 2)) 90 (nI (r + 1)))) _
      have hag : AgN ((mAr υ1 46 r (M 2)).2.2 46) ((mAr υ2 46 r (M 2)).2.2 46) (r + 1) := by rw [mAr_s, mAr_s]; exact AgN_up x3 rfl
      exact b11 k4 (r + 1) _ _ _ (by omega) (by omega) m1 (DA_90 (DA_46 hD rfl) hag)
    have hir : i < r := by
      by_cases e : r ≤ i
      · exact absurd ((n_le (by omega) (by omega)).mpr e) y
      · omega
    rw [x3 i hir]
    refine Pm_chk (fun _ _ => ?_)
    refine Pm_chk (fun _ _ => ?_)
    show Pm k2 (fun k => x_divideRows k 8 _ (mAr υ1 46 i _)) (fun k => x_divideRows k 8 _ (mAr υ2 46 i _)) _
    refine Pm_suc rfl (fun k => by rw [x_divideRows]) (fun k => by rw [x_divideRows]) (fun k3 hk3 => ?_)
    exact ihi k3 (by omega) (i + 1) _ _ _ (by omega) (by omega) m1 (by show M 3 + 1 = _; rw [m3, n_add1]) (DA_46 hD rfl)
  have e42 : τ1.2.2 42 (b / 16) = τ2.2.2 42 (b / 16) := hD.2.2.2.2.2.2.2.2.2.2.1 _ hb16
  rw [e42]
  refine Pm_chk (fun _ _ => ?_)
  exact b7 k1 0 _ _ _ (by omega) (Nat.zero_le _) n1 rfl hD
theorem k_divideRows {na nb : Nat} (hna : na ≤ 64) (hnb : nb ≤ 64) (p1 : σ1.1 84 = nI na) (p2 : σ2.1 84 = nI na) (q1 : σ1.1 85 = nI nb) (q2 : σ2.1 85 = nI nb) (hA : AgN (σ1.2.2 42) (σ2.2.2 42) na) (hB : AgN (σ1.2.2 43) (σ2.2.2 43) nb) (L : Nat → Int32) : Pm n (fun k => x_divideRows k 0 L σ1) (fun k => x_divideRows k 0 L σ2) (fun r1 r2 => ∃ r, r ≤ 140 ∧ DA σ1 σ2 na nb r r1.2 r2.2) := by
  have b3 : ∀ (m i : Nat) (N : Nat → Int32) (τ1 τ2 : MS), i ≤ na → N 1 = nI i → NF σ1 τ1 → NF σ2 τ2 → τ1.1 84 = nI na → τ2.1 84 = nI na → τ1.1 85 = nI nb → τ2.1 85 = nI nb → τ1.1 89 = nI na → τ2.1 89 = nI na → τ1.1 90 = nI 0 → τ2.1 90 = nI 0 → AgN (τ1.2.2 42) (τ2.2.2 42) na → AgN (τ1.2.2 43) (τ2.2.2 43) nb → AgN (τ1.2.2 45) (τ2.2.2 45) i → Pm m (fun k => x_divideRows k 3 N τ1) (fun k => x_divideRows k 3 N τ2) (fun r1 r2 => ∃ r, r ≤ 140 ∧ DA σ1 σ2 na nb r r1.2 r2.2) := by
    intro m
    induction m using Nat.strongRecOn with
    | ind m ih =>
    intro i N τ1 τ2 hi n1 a1 a2 a3 a4 a5 a6 a7 a8 a9 a10 a11 a12 a13
    refine Pm_suc rfl (fun k => by rw [x_divideRows]) (fun k => by rw [x_divideRows]) (fun k1 hk1 => ?_)
    rw [a3, a4, n1, n_cl (p := i) (by omega)]
    refine Pm_ite Iff.rfl (fun y _ => ?_) (fun y _ => ?_)
    · have y := (n_le (by omega) (by omega)).mp y
      have e : i = na := by omega
      rw [e] at a13
      refine Pm_suc rfl (fun k => by rw [x_divideRows]) (fun k => by rw [x_divideRows]) (fun k2 hk2 => ?_)
      rw [a3, a4, n_mul16 hna]
      exact k_dr6 hna hnb k2 (16 * na) 0 _ _ _ (Nat.le_refl _) (by omega) rfl ⟨a1, a2, a3, a4, a5, a6, a7, a8, a9, a10, a11, a12, a13, fun i hi => absurd hi (Nat.not_lt_zero i)⟩
    have hin : i < na := by
      by_cases e : na ≤ i
      · exact absurd ((n_le (by omega) (by omega)).mpr e) y
      · omega
    refine Pm_chk (fun _ _ => ?_)
    show Pm k1 (fun k => x_divideRows k 4 N (mAr τ1 45 i 0)) (fun k => x_divideRows k 4 N (mAr τ2 45 i 0)) _
    refine Pm_suc rfl (fun k => by rw [x_divideRows]) (fun k => by rw [x_divideRows]) (fun k2 hk2 => ?_)
    refine ih k2 (by omega) (i + 1) _ _ _ (by omega) (by show N 1 + 1 = _; rw [n1, n_add1]) (NF_tr a1 (NF_ar (by omega))) (NF_tr a2 (NF_ar (by omega))) a3 a4 a5 a6 a7 a8 a9 a10 ?_ ?_ ?_
    · rw [mAr_o (by decide), mAr_o (by decide)]; exact a11
    · rw [mAr_o (by decide), mAr_o (by decide)]; exact a12
    · rw [mAr_s, mAr_s]; exact AgN_up a13 rfl
  refine Pm_suc rfl (fun k => by rw [x_divideRows]) (fun k => by rw [x_divideRows]) (fun m1 _ => ?_)
  rw [p1, p2]
  show Pm m1 (fun k => x_divideRows k 1 L (mSc σ1 89 (nI na))) (fun k => x_divideRows k 1 L (mSc σ2 89 (nI na))) _
  refine Pm_suc rfl (fun k => by rw [x_divideRows]) (fun k => by rw [x_divideRows]) (fun m2 _ => ?_)
  show Pm m2 (fun k => x_divideRows k 2 L (mSc (mSc σ1 89 (nI na)) 90 (nI 0))) (fun k => x_divideRows k 2 L (mSc (mSc σ2 89 (nI na)) 90 (nI 0))) _
  refine Pm_suc rfl (fun k => by rw [x_divideRows]) (fun k => by rw [x_divideRows]) (fun m3 _ => ?_)
  exact b3 m3 0 _ _ _ (Nat.zero_le _) rfl (NF_tr (NF_sc (by omega)) (NF_sc (by omega))) (NF_tr (NF_sc (by omega)) (NF_sc (by omega))) p1 p2 q1 q2 rfl rfl rfl rfl hA hB (fun i hi => absurd hi (Nat.not_lt_zero i))
end KDV
