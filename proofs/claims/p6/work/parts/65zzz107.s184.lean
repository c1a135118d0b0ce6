/-! Two runs side by side (reference): wholes are printed. -/
section KPW
variable {g1 g2 : Nat → Prop} {l1 l2 : List Nat} {B1 h1 B2 h2 n : Nat} {σ1 σ2 : MS}
theorem Pm_chk0 {Q : Int32 × MS → Int32 × MS → Prop} {c1 c2 : Prop} {d1 : Decidable c1} {d2 : Decidable c2} {a1 a2 : Nat → Option (Int32 × MS)} (t : ¬ c1 → ¬ c2 → Pm n a1 a2 Q) : Pm n (fun k => if c1 then none else a1 k) (fun k => if c2 then none else a2 k) Q := by
  intro k hk r1 r2 e1 e2
  have e1 : (if c1 then none else a1 k) = some r1 := e1
  have e2 : (if c2 then none else a2 k) = some r2 := e2
  by_cases h : c1
  · rw [if_pos h] at e1; cases e1
  · by_cases h' : c2
    · rw [if_pos h'] at e2; cases e2
    · rw [if_neg h] at e1
      rw [if_neg h'] at e2
      exact t h h' k hk r1 r2 e1 e2
theorem PtF_Pr {σ τ : MS} (h : PtF σ τ) : PrF σ τ := ⟨fun j hj => h.1 j (by omega), fun j hj => h.2 j (by omega)⟩
theorem OtE_c {τ1 τ2 υ1 υ2 : MS} (h : OtE τ1 τ2) (a1 : υ1.1 93 = τ1.1 93) (a2 : υ2.1 93 = τ2.1 93) (b1 : υ1.2.2 48 = τ1.2.2 48) (b2 : υ2.2.2 48 = τ2.2.2 48) : OtE υ1 υ2 := by
  obtain ⟨w, w1, w2, w3, w4⟩ := h
  exact ⟨w, w1, a1.trans w2, a2.trans w3, by rw [b1, b2]; exact w4⟩
/-- printing: put out alike, and what it changes -/
def PQ (σ1 σ2 : MS) (r1 r2 : Int32 × MS) : Prop := OtE r1.2 r2.2 ∧ PrF σ1 r1.2 ∧ PrF σ2 r2.2
theorem WhE_Pr {τ1 τ2 : MS} {a1 a2 p : Nat} (n1 : PrF σ1 τ1) (n2 : PrF σ2 τ2) (h : WhE σ1 σ2 a1 a2 p) : WhE τ1 τ2 a1 a2 p := by
  unfold WhE Wh at h ⊢
  rw [n1.2 28 (by decide), n2.2 28 (by decide)]
  exact h
def PWs (σ1 σ2 : MS) (a d : Nat) (τ1 τ2 : MS) : Prop := a ≤ 64 ∧ d ≤ 400 ∧ OtE τ1 τ2 ∧ PrF σ1 τ1 ∧ PrF σ2 τ2 ∧ τ1.1 84 = nI a ∧ τ2.1 84 = nI a ∧ AgN (τ1.2.2 42) (τ2.2.2 42) a ∧ AgN (τ1.2.2 49) (τ2.2.2 49) d
def PWl (a1 a2 d : Nat) (N1 N2 : Nat → Int32) : Prop := LEn 2 N1 N2 ∧ N1 1 = nI a1 ∧ N2 1 = nI a2 ∧ N2 2 = nI d
theorem PWl_u {a1 a2 d j : Nat} {N1 N2 : Nat → Int32} {x y : Int32} (hj : 3 ≤ j) (h : PWl a1 a2 d N1 N2) (e : x = y) : PWl a1 a2 d (upd N1 j x) (upd N2 j y) := ⟨LEn_u h.1 e, (upd_other (by omega)).trans h.2.1, (upd_other (by omega)).trans h.2.2.1, (upd_other (by omega)).trans h.2.2.2⟩
theorem k_pw11 : ∀ (m i d : Nat) (N1 N2 : Nat → Int32) (τ1 τ2 : MS), i ≤ d → d ≤ 400 → N1 3 = nI i - 1 → N2 3 = nI i - 1 → OtE τ1 τ2 → PrF σ1 τ1 → PrF σ2 τ2 → AgN (τ1.2.2 49) (τ2.2.2 49) d → Pm m (fun k => x_putWhole k 11 N1 τ1) (fun k => x_putWhole k 11 N2 τ2) (PQ σ1 σ2) := by
  intro m
  induction m using Nat.strongRecOn with
  | ind m ih =>
  intro i d N1 N2 τ1 τ2 hi hd n1 n2 hO p1 p2 hA
  refine Pm_suc rfl (fun k => by rw [x_putWhole]) (fun k => by rw [x_putWhole]) (fun m1 hm1 => ?_)
  rw [n1, n2]
  refine Pm_ite Iff.rfl (fun _ _ => ?_) (fun z _ => ?_)
  · refine Pm_suc rfl (fun k => by rw [x_putWhole]) (fun k => by rw [x_putWhole]) (fun m2 hm2 => ?_)
    exact Pm_some ⟨hO, p1, p2⟩
  · cases i with
    | zero => exact absurd (show nI 0 - 1 < 0 by decide) z
    | succ i =>
      rw [show nI (i + 1) - 1 = nI i from n_sub (p := i + 1) (q := 1) (by omega) (by omega)]
      refine Pm_chk (fun _ _ => ?_)
      rw [n_cl (p := i) (by omega), hA i (by omega)]
      refine Pm_ob (k_put hO rfl) (fun r1 r2 hr => ?_)
      exact ih m1 (by omega) i d _ _ r1.2 r2.2 (by omega) hd (by show nI i + (-1) = nI i - 1; exact (Int32.sub_eq_add_neg _ _).symm) (by show nI i + (-1) = nI i - 1; exact (Int32.sub_eq_add_neg _ _).symm) hr.1 (PrF_tr p1 (PtF_Pr hr.2.1)) (PrF_tr p2 (PtF_Pr hr.2.2)) (by rw [hr.2.1.2 49 (by decide), hr.2.2.2 49 (by decide)]; exact hA)
theorem k_pw9 {a1 a2 p a d m : Nat} {N1 N2 : Nat → Int32} {τ1 τ2 : MS} (hS1 : HS g1 l1 B1 h1 σ1) (hS2 : HS g2 l2 B2 h2 σ2) (hW : WhE σ1 σ2 a1 a2 p) (hN : PWl a1 a2 d N1 N2) (hT : PWs σ1 σ2 a d τ1 τ2) : Pm m (fun k => x_putWhole k 9 N1 τ1) (fun k => x_putWhole k 9 N2 τ2) (PQ σ1 σ2) := by
  obtain ⟨ha, hd, hO, p1, p2, t1, t2, hA, hD⟩ := hT
  have c10 : ∀ (m : Nat) (υ1 υ2 : MS), OtE υ1 υ2 → PrF σ1 υ1 → PrF σ2 υ2 → AgN (υ1.2.2 49) (υ2.2.2 49) d → Pm m (fun k => x_putWhole k 10 N1 υ1) (fun k => x_putWhole k 10 N2 υ2) (PQ σ1 σ2) := fun m υ1 υ2 hO p1 p2 hD => by
    refine Pm_suc rfl (fun k => by rw [x_putWhole]) (fun k => by rw [x_putWhole]) (fun m1 hm1 => ?_)
    rw [hN.1 2 (by omega), hN.2.2.2]
    exact k_pw11 m1 d d _ _ υ1 υ2 (Nat.le_refl _) hd rfl rfl hO p1 p2 hD
  refine Pm_suc rfl (fun k => by rw [x_putWhole]) (fun k => by rw [x_putWhole]) (fun m1 hm1 => ?_)
  refine Pm_ob (k_signOf (PrF_HS p1 hS1) (PrF_HS p2 hS2) (WhE_Pr p1 p2 hW) (by exact hN.2.1) (by exact hN.2.2.1)) (fun r1 r2 hr => ?_)
  rw [hr.1, hr.2]
  refine Pm_ite Iff.rfl (fun _ _ => c10 m1 τ1 τ2 hO p1 p2 hD) (fun _ _ => ?_)
  refine Pm_ob (k_put hO rfl) (fun s1 s2 hs => ?_)
  exact c10 m1 s1.2 s2.2 hs.1 (PrF_tr p1 (PtF_Pr hs.2.1)) (PrF_tr p2 (PtF_Pr hs.2.2)) (by rw [hs.2.1.2 49 (by decide), hs.2.2.2 49 (by decide)]; exact hD)
theorem k_pw2 {a1 a2 p : Nat} (hS1 : HS g1 l1 B1 h1 σ1) (hS2 : HS g2 l2 B2 h2 σ2) (hW : WhE σ1 σ2 a1 a2 p) : ∀ (m a d : Nat) (N1 N2 : Nat → Int32) (τ1 τ2 : MS), PWl a1 a2 d N1 N2 → PWs σ1 σ2 a d τ1 τ2 → Pm m (fun k => x_putWhole k 2 N1 τ1) (fun k => x_putWhole k 2 N2 τ2) (PQ σ1 σ2) := by
  intro m
  induction m using Nat.strongRecOn with
  | ind m ih =>
  intro a d N1 N2 τ1 τ2 hN hT
  -- noughts at the top go
  have c7 : ∀ (m' : Nat), m' < m → ∀ (b d : Nat) (M1 M2 : Nat → Int32) (υ1 υ2 : MS), PWl a1 a2 d M1 M2 → PWs σ1 σ2 b d υ1 υ2 → Pm m' (fun k => x_putWhole k 7 M1 υ1) (fun k => x_putWhole k 7 M2 υ2) (PQ σ1 σ2) := by
    intro m'
    induction m' using Nat.strongRecOn with
    | ind m' ih7 =>
    intro hm' b d M1 M2 υ1 υ2 hM hU
    have c8 : ∀ m'', m'' < m' → Pm m'' (fun k => x_putWhole k 8 M1 υ1) (fun k => x_putWhole k 8 M2 υ2) (PQ σ1 σ2) := fun m'' h => by
      refine Pm_suc rfl (fun k => by rw [x_putWhole]) (fun k => by rw [x_putWhole]) (fun m2 hm2 => ?_)
      exact ih m2 (by omega) b d M1 M2 υ1 υ2 hM hU
    obtain ⟨hb, hd, hO, p1, p2, t1, t2, hA, hD⟩ := hU
    refine Pm_suc rfl (fun k => by rw [x_putWhole]) (fun k => by rw [x_putWhole]) (fun m1 hm1 => ?_)
    rw [t1, t2]
    refine Pm_ite Iff.rfl (fun _ _ => c8 m1 (by omega)) (fun z _ => ?_)
    cases b with
    | zero => exact absurd ((n_le0 (by decide)).mpr rfl) z
    | succ b =>
      rw [show nI (b + 1) - 1 = nI b from n_sub (p := b + 1) (q := 1) (by omega) (by omega)]
      refine Pm_chk (fun _ _ => ?_)
      rw [n_cl (p := b) (by omega), hA b (by omega)]
      refine Pm_ite Iff.rfl (fun _ _ => ?_) (fun _ _ => c8 m1 (by omega))
      exact ih7 m1 (by omega) (by omega) b d M1 M2 (mSc υ1 84 (nI b)) (mSc υ2 84 (nI b)) hM ⟨by omega, hd, OtE_c hO rfl rfl rfl rfl, PrF_tr p1 (PrF_sc (Or.inl rfl)), PrF_tr p2 (PrF_sc (Or.inl rfl)), rfl, rfl, AgN_mo hA (by omega), hD⟩
  -- by ten
  have c3 : ∀ (m' : Nat), m' < m → ∀ (k : Nat) (M1 M2 : Nat → Int32) (υ1 υ2 : MS), k ≤ a → M2 4 = nI k - 1 → PWl a1 a2 d M1 M2 → PWs σ1 σ2 a d υ1 υ2 → Pm m' (fun k => x_putWhole k 3 M1 υ1) (fun k => x_putWhole k 3 M2 υ2) (PQ σ1 σ2) := by
    intro m'
    induction m' using Nat.strongRecOn with
    | ind m' ih3 =>
    intro hm' k M1 M2 υ1 υ2 hk q4 hM hU
    obtain ⟨hb, hd, hO, p1, p2, t1, t2, hA, hD⟩ := hU
    refine Pm_suc rfl (fun k => by rw [x_putWhole]) (fun k => by rw [x_putWhole]) (fun m1 hm1 => ?_)
    rw [hM.1 4 (by omega), hM.1 3 (by omega), q4]
    refine Pm_ite Iff.rfl (fun _ _ => ?_) (fun z _ => ?_)
    · refine Pm_suc rfl (fun k => by rw [x_putWhole]) (fun k => by rw [x_putWhole]) (fun m2 hm2 => ?_)
      rw [hM.1 2 (by omega), hM.1 3 (by omega), hM.2.2.2]
      refine Pm_chk (fun z _ => ?_)
      have hlt : d < 400 := by
        by_cases c : d < 400
        · exact c
        · exact absurd (Or.inr (by rw [n_cl (p := d) (by omega)]; omega)) z
      rw [n_cl (p := d) (by omega)]
      show Pm m2 (fun k => x_putWhole k 6 M1 (mAr υ1 49 d (M2 3))) (fun k => x_putWhole k 6 M2 (mAr υ2 49 d (M2 3))) _
      refine Pm_suc rfl (fun k => by rw [x_putWhole]) (fun k => by rw [x_putWhole]) (fun m3 hm3 => ?_)
      rw [hM.1 2 (by omega), hM.2.2.2, n_add1]
      refine c7 m3 (by omega) a (d + 1) _ _ _ _ ⟨LEn_u hM.1 rfl, hM.2.1, hM.2.2.1, rfl⟩ ⟨hb, by omega, OtE_c hO rfl rfl (mAr_o (by decide)) (mAr_o (by decide)), PrF_tr p1 (PrF_ar (Or.inr (Or.inr rfl))), PrF_tr p2 (PrF_ar (Or.inr (Or.inr rfl))), t1, t2, ?_, ?_⟩
      · rw [mAr_o (by decide), mAr_o (by decide)]; exact hA
      · rw [mAr_s, mAr_s]; exact AgN_up hD rfl
    · cases k with
      | zero => exact absurd (show nI 0 - 1 < 0 by decide) z
      | succ k =>
        rw [show nI (k + 1) - 1 = nI k from n_sub (p := k + 1) (q := 1) (by omega) (by omega)]
        refine Pm_chk (fun _ _ => ?_)
        refine Pm_chk0 (fun _ _ => ?_)
        refine Pm_chk (fun _ _ => ?_)
        rw [n_cl (p := k) (by omega), hA k (by omega)]
        generalize (M2 3 <<< ((16 : Int32) &&& 31)) ||| υ2.2.2 42 k = x
        show Pm m1 (fun f => x_putWhole f 4 (upd M1 5 x) (mAr υ1 42 k (x / 10))) (fun f => x_putWhole f 4 (upd M2 5 x) (mAr υ2 42 k (x / 10))) _
        refine Pm_suc rfl (fun k => by rw [x_putWhole]) (fun k => by rw [x_putWhole]) (fun m2 hm2 => ?_)
        refine Pm_chk0 (fun _ _ => ?_)
        have hM5 : PWl a1 a2 d (upd M1 5 x) (upd M2 5 x) := PWl_u (by omega) hM rfl
        have q4' : upd M2 5 x 4 = nI (k + 1) - 1 := q4
        rw [show nI (k + 1) - 1 = nI k from n_sub (p := k + 1) (q := 1) (by omega) (by omega)] at q4'
        generalize upd M1 5 x = O1 at hM5
        generalize upd M2 5 x = O2 at hM5 q4'
        refine ih3 m2 (by omega) (by omega) k _ _ _ _ (by omega) ?_ (PWl_u (by omega) (PWl_u (by omega) hM5 (by rw [hM5.1 5 (by omega)])) (by rw [hM5.1 4 (by omega)])) ⟨hb, hd, OtE_c hO rfl rfl (mAr_o (by decide)) (mAr_o (by decide)), PrF_tr p1 (PrF_ar (Or.inl rfl)), PrF_tr p2 (PrF_ar (Or.inl rfl)), t1, t2, ?_, ?_⟩
        · show O2 4 + (-1) = nI k - 1
          rw [q4']
          exact (Int32.sub_eq_add_neg _ _).symm
        · rw [mAr_s, mAr_s]; exact AgN_st hA rfl
        · rw [mAr_o (by decide), mAr_o (by decide)]; exact hD
  have hT' := hT
  obtain ⟨ha, hd, hO, p1, p2, t1, t2, hA, hD⟩ := hT
  refine Pm_suc rfl (fun k => by rw [x_putWhole]) (fun k => by rw [x_putWhole]) (fun m1 hm1 => ?_)
  rw [t1, t2]
  refine Pm_ite Iff.rfl (fun _ _ => k_pw9 hS1 hS2 hW hN hT') (fun _ _ => ?_)
  exact c3 m1 (by omega) a _ _ τ1 τ2 (Nat.le_refl _) rfl (PWl_u (by omega) (PWl_u (by omega) hN rfl) rfl) hT'
theorem k_putWhole {a1 a2 p : Nat} (hS1 : HS g1 l1 B1 h1 σ1) (hS2 : HS g2 l2 B2 h2 σ2) (hW : WhE σ1 σ2 a1 a2 p) (hO : OtE σ1 σ2) {L1 L2 : Nat → Int32} (d1 : L1 1 = nI a1) (d2 : L2 1 = nI a2) (hL : LEn 2 L1 L2) : Pm n (fun k => x_putWhole k 0 L1 σ1) (fun k => x_putWhole k 0 L2 σ2) (PQ σ1 σ2) := by
  refine Pm_suc rfl (fun k => by rw [x_putWhole]) (fun k => by rw [x_putWhole]) (fun m1 hm1 => ?_)
  refine Pm_ob (Pm_un (s_loadA hS1 hW.1.1 hW.1.2.1 hW.1.2.2.1 hW.1.2.2.2.1 hW.1.2.2.2.2 (by exact d1)) (fun k => f_loadA k _ _ _) (s_loadA hS2 hW.2.1.1 hW.2.1.2.1 hW.2.1.2.2.1 hW.2.1.2.2.2.1 hW.2.1.2.2.2.2 (by exact d2)) (fun k => f_loadA k _ _ _) (k_loadA hS1 hS2 hW (by exact d1) (by exact d2))) (fun r1 r2 hr => ?_)
  obtain ⟨⟨_, _, q1, q2, qA⟩, ⟨_, _, _, u43, u85⟩, ⟨_, _, _, v43, v85⟩⟩ := hr
  have f1 : PrF σ1 r1.2 := ⟨fun j hj => u85 j (by omega), fun j hj => u43 j (by omega)⟩
  have f2 : PrF σ2 r2.2 := ⟨fun j hj => v85 j (by omega), fun j hj => v43 j (by omega)⟩
  have hO' : OtE r1.2 r2.2 := OtE_c hO (u85 93 (by decide)) (v85 93 (by decide)) (u43 48 (by decide)) (v43 48 (by decide))
  have hp := hW.1.2.2.1
  rw [q1, q2]
  refine Pm_ite Iff.rfl (fun _ _ => ?_) (fun _ _ => ?_)
  · refine Pm_chk (fun _ _ => ?_)
    show Pm m1 (fun k => x_putWhole k 1 (upd L1 2 0) (mAr r1.2 49 (0 : Int32).toNatClampNeg 0)) (fun k => x_putWhole k 1 (upd L2 2 0) (mAr r2.2 49 (0 : Int32).toNatClampNeg 0)) _
    refine Pm_suc rfl (fun k => by rw [x_putWhole]) (fun k => by rw [x_putWhole]) (fun m2 hm2 => ?_)
    refine k_pw2 hS1 hS2 hW m2 (p - 1) 1 _ _ _ _ ⟨LEn_u (LEn_u hL rfl) rfl, d1, d2, rfl⟩ ⟨by omega, by omega, OtE_c hO' rfl rfl (mAr_o (by decide)) (mAr_o (by decide)), PrF_tr f1 (PrF_ar (Or.inr (Or.inr rfl))), PrF_tr f2 (PrF_ar (Or.inr (Or.inr rfl))), q1, q2, ?_, ?_⟩
    · rw [mAr_o (by decide), mAr_o (by decide)]; exact qA
    · rw [mAr_s, mAr_s]
      intro i hi
      rw [show i = (0 : Int32).toNatClampNeg by have : (0 : Int32).toNatClampNeg = 0 := by decide
                                                omega, upd_same, upd_same]
  · exact k_pw2 hS1 hS2 hW m1 (p - 1) 0 _ _ _ _ ⟨LEn_u hL rfl, d1, d2, rfl⟩ ⟨by omega, by omega, hO', f1, f2, q1, q2, qA, fun i hi => absurd hi (Nat.not_lt_zero i)⟩
end KPW
