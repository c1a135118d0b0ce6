/-! Evaluation on both sides (reference): a function is called. -/
section ECB
variable {T : Nat → Nat → Int32} {FN : Nat → Nat → Prop} {O r K d t w XC : Nat} {lc : Nat → Prop} {σ1 σ2 : MS}
theorem b_call {n e f0 fn m c : Nat} (hE : PE T FN e) (hn : (1 ≤ n ∧ n < LNo T % 70001)) (hO : 1 ≤ O) (x5 : T 5 n = nI fn) (hF : FN fn m) (x8 : T 8 n = nI c) (hcO : 21 ≤ c + O) (hc : c ≤ 30) (hW : WN T FN f0 3 (O - 1) m K lc (T 6 n)) (hP : PC T FN O r K lc (e + 3) t w XC σ1) (hI : EI t w XC σ1 σ2) {L1 L2 : Nat → Int32} (d1 : L1 1 = nI n) (d2 : L2 1 = nI n) : T2 (fun k => x_GV k (e + 1) 2 0 L1 σ1) (fun k => x_GV k (e + 1) 2 0 L2 σ2) (EQ (178000 + (e + 1)) t w XC σ1 σ2) := by
  have ht := PC_t hP
  have hXC := hP.2.1
  have hd13 := hP.2.2.2.2.1
  have hS1 := hP.1
  have hS2 := EI_ST hI hS1
  obtain ⟨hfn, hm, hpm, F, b, hfb, hb70, hWb⟩ := hS1.2.1 fn m hF
  have tb : ∀ (τ1 τ2 : MS), FE σ1 τ1 → FE σ2 τ2 → ∀ a i, 4 ≤ a → a ≤ 9 → (1 ≤ i ∧ i < LNo T % 70001) → τ1.2.2 a i = T a i ∧ τ2.2.2 a i = T a i := fun τ1 τ2 f1 f2 a i h1 h2 h3 => ⟨(STb_fe hS1 f1).1 a i h1 (by omega) ⟨fun _ => h3, fun z => by omega⟩, (STb_fe hS2 f2).1 a i h1 (by omega) ⟨fun _ => h3, fun z => by omega⟩⟩
  have hP0 := hP
  obtain ⟨_, _, hO20, hr14, _, hr4, _, fu, dp, it, hC, hK, hpile, hdep⟩ := hP
  have hC0 := hC
  obtain ⟨c67, cfu, c97, cdp, c72, ⟨cc, cc1, cc2, cc3⟩, c69⟩ := hC
  have hRA : ∀ j, AlS j → σ2.1 j = σ1.1 j := by
    obtain ⟨g1, l1, B1, h1, X1, g2, l2, B2, h2, X2, hX⟩ := hI
    exact fun j h => (hX.2.2.1.2.2.1 j h).symm
  have k67 : σ2.1 67 = nI fu := (hRA 67 (by unfold AlS; omega)).trans c67
  have k97 : σ2.1 97 = nI dp := (hRA 97 (by unfold AlS; omega)).trans c97
  have k68 : σ2.1 68 = σ1.1 68 := hRA 68 (by unfold AlS; omega)
  have k69 : σ2.1 69 = σ1.1 69 := hRA 69 (by unfold AlS; omega)
  have k72 : σ2.1 72 = nI it := (hRA 72 (by unfold AlS; omega)).trans c72
  have hx69 : σ1.1 69 = 0 ∨ σ1.1 69 = 1 := c69.imp id (fun z => z.1)
  have tc : ∀ (N : Nat → Nat → Prop) (ρ1 ρ2 : MS), FRn N σ1 ρ1 → FRn N σ2 ρ2 → ρ1.2.2 8 n = nI c ∧ ρ2.2.2 8 n = nI c := fun N ρ1 ρ2 f1 f2 => ⟨by rw [(STb_fr hS1 f1).1 8 _ (by omega) (by omega) (by omega)]; exact x8, by rw [(STb_fr hS2 f2).1 8 _ (by omega) (by omega) (by omega)]; exact x8⟩
  have f59 : ∀ (σ : MS) (x : Int32), FE σ (mSc σ 59 x) := fun σ x => FE_sc (Or.inr (Or.inr (Or.inl rfl)))
  -- with an error: out
  have b2Z : ∀ (N1 N2 : Nat → Int32) (τ1 τ2 : MS), FE σ1 τ1 → FE σ2 τ2 → EZ t (178000 + e) τ1 → EZ t (178000 + e) τ2 → T2 (fun k => x_GV k (e + 1) 2 2 N1 τ1) (fun k => x_GV k (e + 1) 2 2 N2 τ2) (EQ (178000 + (e + 1)) t w XC σ1 σ2) := fun N1 N2 τ1 τ2 f1 f2 z1 z2 => by
    refine T2_suc (fun k => e_callFunc_2 k _ _ _) (fun k => e_callFunc_2 k _ _ _) ?_
    refine T2_ite ⟨fun z => absurd z (EZ_le z1), fun z => absurd z (EZ_le z2)⟩ (fun z _ => absurd z (EZ_le z1)) (fun _ _ => ?_)
    exact T2_some ⟨f1, f2, Or.inr ⟨EZ_mo z1 (Nat.le_refl _) (by omega), EZ_mo z2 (Nat.le_refl _) (by omega)⟩⟩
  -- the body
  have b15 : ∀ (w' : Nat) (N1 N2 : Nat → Int32) (υ1 υ2 : MS), fu + 1 ≤ 20 → dp + c ≤ 60 → N1 1 = nI n → N2 1 = nI n → N1 3 = nI fn → N2 3 = nI fn → N1 4 = σ1.1 68 → N2 4 = σ1.1 68 → N1 5 = σ1.1 69 → N2 5 = σ1.1 69 → FRn (Fr (60 * (1 + (fu + 1))) 0) σ1 υ1 → FRn (Fr (60 * (1 + (fu + 1))) 0) σ2 υ2 → υ1.1 67 = nI (fu + 1) → υ2.1 67 = nI (fu + 1) → υ1.1 97 = nI (dp + c) → υ2.1 97 = nI (dp + c) → υ1.1 68 = nI (60 * (1 + (fu + 1))) → υ2.1 68 = nI (60 * (1 + (fu + 1))) → υ1.1 69 = 1 → w ≤ w' → EI t w' XC υ1 υ2 → T2 (fun k => x_GV k (e + 1) 2 15 N1 υ1) (fun k => x_GV k (e + 1) 2 15 N2 υ2) (EQ (178000 + (e + 1)) t w XC σ1 σ2) := by
    intro w' N1 N2 υ1 υ2 hfu hdc n1 o1 n3 o3 n4 o4 n5 o5 f1 f2 q67 p67 q97 p97 q68 p68 q69 hw hJ
    have s1 := STb_fr hS1 f1
    have s2 := STb_fr hS2 f2
    have g1 : υ1.2.2 17 fn = nI b := by
      have := f1.2.1 17 fn (by unfold AlR; omega) (by unfold Zn; omega) (by omega)
      rw [this]; exact hfb
    have g2 : υ2.2.2 17 fn = nI b := by
      rw [EI_row hJ ⟨Or.inl rfl, STb_30 s1 hfn⟩]; exact g1
    have e72 : υ1.1 72 = nI it := (f1.1 72 (by unfold AlS; omega) (by decide) (by decide) (by decide) (by unfold Fc; omega)).trans c72
    have e30 : υ1.2.2 30 1 = nI cc := (f1.2.1 30 1 (by unfold AlR; omega) (by unfold Zn; omega) (by omega)).trans cc1
    have hC' : Cx lcF (fu + 1) (dp + c) it υ1 := ⟨q67, hfu, q97, hdc, e72, ⟨cc, e30, cc2, fun _ => Or.inl q69, ⟨fun s hs z => absurd z (by unfold lcF; omega), fun s hs z z69 _ => absurd (q69.symm.trans z69) (by decide)⟩⟩, Or.inr ⟨q69, by rw [fb_s]; exact q68⟩⟩
    have hw60 := EI_w hJ
    have hPC : PC T FN 20 14 60 lcF e t w' XC υ1 := ⟨s1, hXC, by omega, by omega, by omega, by omega, hw60, fu + 1, dp + c, it, hC', by omega, by omega, by omega⟩
    refine T2_suc (fun k => e_callFunc_15 k _ _ _) (fun k => e_callFunc_15 k _ _ _) ?_
    rw [n3, o3]
    refine T2_chk (n_in (by omega) (by omega)) (n_in (by omega) (by omega)) ?_
    rw [n_cl (p := fn) (by omega), g1, g2]
    refine T2_od ?_
    refine T2_ob (hE F 20 14 60 lcF (nI b) t w' XC υ1 υ2 _ _ hWb hPC hJ rfl rfl) (fun r1 r2 hr => ?_)
    obtain ⟨k1, k2, hr⟩ := hr
    have al1 : ∀ j, AlS j → j ≠ 57 → j ≠ 59 → j ≠ 95 → r1.2.1 j = υ1.1 j := k1.1
    have al2 : ∀ j, AlS j → j ≠ 57 → j ≠ 59 → j ≠ 95 → r2.2.1 j = υ2.1 j := k2.1
    have fin := fun w0 hh => b_callE (w := w) (w0 := w0) (lb := 60 * (1 + (fu + 1))) (fu := fu) (dp := dp) (x68 := σ1.1 68) (x69 := σ1.1 69) (e := e) hXC ht hn (by omega) cfu cdp (by omega) tc c67 k67 c97 k97 rfl k68 rfl k69 hx69 (N1 := upd N1 6 0) (N2 := upd N2 6 0) (τ1 := r1.2) (τ2 := r2.2) n1 o1 n4 o4 n5 o5 rfl rfl (FR_tr f1 (FR_fe k1)) (FR_tr f2 (FR_fe k2)) ((al1 67 (by unfold AlS; omega) (by decide) (by decide) (by decide)).trans q67) ((al2 67 (by unfold AlS; omega) (by decide) (by decide) (by decide)).trans p67) ((al1 97 (by unfold AlS; omega) (by decide) (by decide) (by decide)).trans q97) ((al2 97 (by unfold AlS; omega) (by decide) (by decide) (by decide)).trans p97) ((al1 68 (by unfold AlS; omega) (by decide) (by decide) (by decide)).trans q68) ((al2 68 (by unfold AlS; omega) (by decide) (by decide) (by decide)).trans p68) hh
    rcases hr with ⟨w2, hw2, hr⟩ | hr
    · exact fin w2 (Or.inl ⟨by omega, hr⟩)
    · exact fin w (Or.inr hr)
  -- the frame is filled
  have b10 : ∀ (q i w' : Nat) (N1 N2 : Nat → Int32) (υ1 υ2 : MS), q + i = 60 → fu + 1 ≤ 20 → dp + c ≤ 60 → N1 1 = nI n → N2 1 = nI n → N1 2 = nI t → N2 2 = nI t → N1 3 = nI fn → N2 3 = nI fn → N1 4 = σ1.1 68 → N2 4 = σ1.1 68 → N1 5 = σ1.1 69 → N2 5 = σ1.1 69 → N1 6 = nI i → N2 6 = nI i → FRn (Fr (60 * (1 + (fu + 1))) 0) σ1 υ1 → FRn (Fr (60 * (1 + (fu + 1))) 0) σ2 υ2 → υ1.1 67 = nI (fu + 1) → υ2.1 67 = nI (fu + 1) → υ1.1 97 = nI (dp + c) → υ2.1 97 = nI (dp + c) → υ1.1 68 = nI (60 * (1 + (fu + 1))) → υ2.1 68 = nI (60 * (1 + (fu + 1))) → υ1.1 69 = 1 → w ≤ w' → EI (t + m) w' XC υ1 υ2 → T2 (fun k => x_GV k (e + 1) 2 10 N1 υ1) (fun k => x_GV k (e + 1) 2 10 N2 υ2) (EQ (178000 + (e + 1)) t w XC σ1 σ2) := by
    intro q
    induction q with
    | zero =>
      intro i w' N1 N2 υ1 υ2 hi hfu hdc n1 o1 n2 o2 n3 o3 n4 o4 n5 o5 n6 o6 f1 f2 q67 p67 q97 p97 q68 p68 q69 hw hJ
      refine T2_suc (fun k => e_callFunc_10 k _ _ _) (fun k => e_callFunc_10 k _ _ _) ?_
      rw [n6, o6]
      refine T2_ite Iff.rfl (fun _ _ => ?_) (fun z _ => absurd ((n_le (p := 60) (by decide) (by omega)).mpr (by omega)) z)
      refine T2_suc (fun k => e_callFunc_14 k _ _ _) (fun k => e_callFunc_14 k _ _ _) ?_
      rw [n2, o2]
      exact b15 w' N1 N2 (mSc υ1 59 (nI t)) (mSc υ2 59 (nI t)) hfu hdc n1 o1 n3 o3 n4 o4 n5 o5 (FR_tr f1 (FR_fe (f59 _ _))) (FR_tr f2 (FR_fe (f59 _ _))) q67 p67 q97 p97 q68 p68 q69 hw (EI_dn (by omega) hJ)
    | succ q ih =>
      intro i w' N1 N2 υ1 υ2 hi hfu hdc n1 o1 n2 o2 n3 o3 n4 o4 n5 o5 n6 o6 f1 f2 q67 p67 q97 p97 q68 p68 q69 hw hJ
      have g1 : υ1.2.2 18 fn = nI m := by
        have := f1.2.1 18 fn (by unfold AlR; omega) (by unfold Zn; omega) (by omega)
        rw [this]; exact hpm
      have g2 : υ2.2.2 18 fn = nI m := by
        rw [EI_row hJ ⟨Or.inr rfl, STb_30 (STb_fr hS1 f1) hfn⟩]; exact g1
      have pv : PlV 33 (60 * (1 + (fu + 1)) + i) := Or.inr ⟨rfl, by omega⟩
      have b12 : ∀ (M1 M2 : Nat → Int32), M1 1 = nI n → M2 1 = nI n → M1 2 = nI t → M2 2 = nI t → M1 3 = nI fn → M2 3 = nI fn → M1 4 = σ1.1 68 → M2 4 = σ1.1 68 → M1 5 = σ1.1 69 → M2 5 = σ1.1 69 → M1 6 = nI i → M2 6 = nI i → M1 101 = nI (60 * (1 + (fu + 1)) + i) → M2 101 = nI (60 * (1 + (fu + 1)) + i) → EI (t + m) w' XC (mAr υ1 33 (60 * (1 + (fu + 1)) + i) (M1 100)) (mAr υ2 33 (60 * (1 + (fu + 1)) + i) (M2 100)) → T2 (fun k => x_GV k (e + 1) 2 12 M1 υ1) (fun k => x_GV k (e + 1) 2 12 M2 υ2) (EQ (178000 + (e + 1)) t w XC σ1 σ2) := by
        intro M1 M2 m1 l1 m2 l2 m3 l3 m4 l4 m5 l5 m6 l6 m101 l101 hJ2
        refine T2_suc (fun k => e_callFunc_12 k _ _ _) (fun k => e_callFunc_12 k _ _ _) ?_
        rw [m101, l101]
        refine T2_chk (n_in (by omega) (by omega)) (n_in (by omega) (by omega)) ?_
        rw [n_cl (p := 60 * (1 + (fu + 1)) + i) (by omega)]
        show T2 (fun k => x_GV k (e + 1) 2 13 M1 (mAr υ1 33 (60 * (1 + (fu + 1)) + i) (M1 100))) (fun k => x_GV k (e + 1) 2 13 M2 (mAr υ2 33 (60 * (1 + (fu + 1)) + i) (M2 100))) _
        refine T2_suc (fun k => e_callFunc_13 k _ _ _) (fun k => e_callFunc_13 k _ _ _) ?_
        rw [m6, l6, n_add1]
        exact ih (i + 1) w' _ _ _ _ (by omega) hfu hdc m1 l1 m2 l2 m3 l3 m4 l4 m5 l5 rfl rfl (FR_tr f1 (FR_fen (FE_bd pv ⟨rfl, by omega, by omega⟩))) (FR_tr f2 (FR_fen (FE_bd pv ⟨rfl, by omega, by omega⟩))) q67 p67 q97 p97 q68 p68 q69 hw hJ2
      refine T2_suc (fun k => e_callFunc_10 k _ _ _) (fun k => e_callFunc_10 k _ _ _) ?_
      rw [n6, o6, n3, o3, q68, p68, n2, o2, n_add (p := 60 * (1 + (fu + 1))) (by omega), n_add (p := t) (by omega)]
      refine T2_ite Iff.rfl (fun z _ => absurd ((n_le (p := 60) (by decide) (by omega)).mp z) (by omega)) (fun _ _ => ?_)
      refine T2_chk (n_in (by omega) (by omega)) (n_in (by omega) (by omega)) ?_
      rw [n_cl (p := fn) (by omega), g1, g2]
      refine T2_ite Iff.rfl (fun _ _ => ?_) (fun z _ => ?_)
      · refine T2_suc (fun k => e_callFunc_11 k _ _ _) (fun k => e_callFunc_11 k _ _ _) ?_
        exact b12 _ _ n1 o1 n2 o2 n3 o3 n4 o4 n5 o5 n6 o6 rfl rfl (EI_bd0 hJ pv)
      · have him : i < m := by
          by_cases y : i < m
          · exact y
          · exact absurd ((n_le (by omega) (by omega)).mpr (by omega)) z
        refine T2_chk (n_in (by omega) (by omega)) (n_in (by omega) (by omega)) ?_
        rw [n_cl (p := t + i) (by omega)]
        refine b12 _ _ n1 o1 n2 o2 n3 o3 n4 o4 n5 o5 n6 o6 rfl rfl (EI_bd hJ pv (fun g1 l1 B1 h1 X1 g2 l2 B2 h2 X2 hX => ?_))
        obtain ⟨m1, m2, hR, _⟩ := hX
        have hr : RtP (t + m) υ1 29 (t + i) := Or.inl ⟨rfl, by omega⟩
        exact ⟨hR.1 29 (t + i) hr (by unfold VwR; omega), MI_rt m1 hr, MI_rt m2 ((RA_rt m1.2.1 hR (t + m) 29 (t + i)).mpr hr)⟩
  -- all arguments are there
  have b2 : ∀ (w' : Nat) (N1 N2 : Nat → Int32) (τ1 τ2 : MS), N1 1 = nI n → N2 1 = nI n → N1 2 = nI t → N2 2 = nI t → FE σ1 τ1 → FE σ2 τ2 → w ≤ w' → EI (t + m) w' XC τ1 τ2 → T2 (fun k => x_GV k (e + 1) 2 2 N1 τ1) (fun k => x_GV k (e + 1) 2 2 N2 τ2) (EQ (178000 + (e + 1)) t w XC σ1 σ2) := by
    intro w' N1 N2 τ1 τ2 n1 o1 n2 o2 f1 f2 hw hJ
    obtain ⟨e1, e2⟩ := EI_e hJ
    refine T2_suc (fun k => e_callFunc_2 k _ _ _) (fun k => e_callFunc_2 k _ _ _) ?_
    rw [e1, e2]
    refine T2_ite Iff.rfl (fun _ _ => ?_) (fun z _ => absurd (by decide) z)
    have b4 : ∀ (M1 M2 : Nat → Int32), T2 (fun k => x_GV k (e + 1) 2 4 M1 τ1) (fun k => x_GV k (e + 1) 2 4 M2 τ2) (EQ (178000 + (e + 1)) t w XC σ1 σ2) := fun M1 M2 => by
      refine T2_suc (fun k => e_callFunc_4 k _ _ _) (fun k => e_callFunc_4 k _ _ _) ?_
      refine T2_ob (T2_t (s_fail _ _) (s_fail _ _)) (fun r1 r2 hr => ?_)
      rw [hr.1, hr.2]
      obtain ⟨z1, z2⟩ := E_er (a := t) (b := 178000 + (e + 1)) (e := 7) hXC hJ (by decide) (by decide) (by omega) (by omega)
      exact T2_some ⟨FE_tr f1 FE_er, FE_tr f2 FE_er, Or.inr ⟨z1, z2⟩⟩
    have a67 : τ1.1 67 = nI fu := (f1.1 67 (by unfold AlS; omega) (by decide) (by decide) (by decide)).trans c67
    have z67 : τ2.1 67 = nI fu := (f2.1 67 (by unfold AlS; omega) (by decide) (by decide) (by decide)).trans k67
    have a97 : τ1.1 97 = nI dp := (f1.1 97 (by unfold AlS; omega) (by decide) (by decide) (by decide)).trans c97
    have z97 : τ2.1 97 = nI dp := (f2.1 97 (by unfold AlS; omega) (by decide) (by decide) (by decide)).trans k97
    refine T2_suc (fun k => e_callFunc_3 k _ _ _) (fun k => e_callFunc_3 k _ _ _) ?_
    rw [a67, z67, a97, z97, n1, o1]
    refine T2_ite Iff.rfl (fun _ _ => b4 _ _) (fun y20 _ => ?_)
    have hfu : fu + 1 ≤ 20 := by
      have : ¬ fu = 20 := fun c => y20 (by rw [c]; rfl)
      omega
    refine T2_chk (n_in (by omega) (by omega)) (n_in (by omega) (by omega)) ?_
    rw [n_cl (p := n) (by omega), (tb _ _ f1 f2 8 _ (by omega) (by omega) (by omega)).1, (tb _ _ f1 f2 8 _ (by omega) (by omega) (by omega)).2, x8, n_add (p := dp) (by omega)]
    refine T2_ite Iff.rfl (fun y60 _ => ?_) (fun _ _ => b4 _ _)
    have hdc := (n_le (q := 60) (by omega) (by decide)).mp y60
    refine T2_suc (fun k => e_callFunc_5 k _ _ _) (fun k => e_callFunc_5 k _ _ _) ?_
    refine T2_ob (E_sw hXC (by omega) hJ) (fun r1 r2 hr => ?_)
    obtain ⟨g1, g2, gA, lA, BA, hA, XA, gB, lB, BB, hB, XB, hX, _, _⟩ := hr
    have k1 := FE_tr f1 g1
    have k2 := FE_tr f2 g2
    have hJ2 : EI (t + m) w' XC r1.2 r2.2 := ⟨gA, lA, BA, hA, XA, gB, lB, BB, hB, XB, hX⟩
    have r67 : r1.2.1 67 = nI fu := (k1.1 67 (by unfold AlS; omega) (by decide) (by decide) (by decide)).trans c67
    have v67 : r2.2.1 67 = nI fu := (k2.1 67 (by unfold AlS; omega) (by decide) (by decide) (by decide)).trans k67
    have r97 : r1.2.1 97 = nI dp := (k1.1 97 (by unfold AlS; omega) (by decide) (by decide) (by decide)).trans c97
    have v97 : r2.2.1 97 = nI dp := (k2.1 97 (by unfold AlS; omega) (by decide) (by decide) (by decide)).trans k97
    have r68 : r1.2.1 68 = σ1.1 68 := k1.1 68 (by unfold AlS; omega) (by decide) (by decide) (by decide)
    have v68 : r2.2.1 68 = σ1.1 68 := (k2.1 68 (by unfold AlS; omega) (by decide) (by decide) (by decide)).trans k68
    have r69 : r1.2.1 69 = σ1.1 69 := k1.1 69 (by unfold AlS; omega) (by decide) (by decide) (by decide)
    have v69 : r2.2.1 69 = σ1.1 69 := (k2.1 69 (by unfold AlS; omega) (by decide) (by decide) (by decide)).trans k69
    rw [n1, o1]
    refine T2_chk (n_in (by omega) (by omega)) (n_in (by omega) (by omega)) ?_
    rw [n_cl (p := n) (by omega), (tb _ _ k1 k2 5 _ (by omega) (by omega) (by omega)).1, (tb _ _ k1 k2 5 _ (by omega) (by omega) (by omega)).2, x5, r67, v67, n_add1, r68, v68, r69, v69]
    show T2 (fun k => x_GV k (e + 1) 2 6 (upd (upd (upd N1 3 (nI fn)) 4 (σ1.1 68)) 5 (σ1.1 69)) (mSc r1.2 67 (nI (fu + 1)))) (fun k => x_GV k (e + 1) 2 6 (upd (upd (upd N2 3 (nI fn)) 4 (σ1.1 68)) 5 (σ1.1 69)) (mSc r2.2 67 (nI (fu + 1)))) _
    have i67 : Fc 67 := by unfold Fc; omega
    have i68 : Fc 68 := by unfold Fc; omega
    have i69 : Fc 69 := by unfold Fc; omega
    have i97 : Fc 97 := by unfold Fc; omega
    have q1 : FRn (Fr (60 * (1 + (fu + 1))) 0) σ1 _ := FR_tr (FR_fe k1) (FR_sc (x := nI (fu + 1)) i67)
    have q2 : FRn (Fr (60 * (1 + (fu + 1))) 0) σ2 _ := FR_tr (FR_fe k2) (FR_sc (x := nI (fu + 1)) i67)
    refine T2_suc (fun k => e_callFunc_6 k _ _ _) (fun k => e_callFunc_6 k _ _ _) ?_
    have m1 : (upd (upd (upd N1 3 (nI fn)) 4 (σ1.1 68)) 5 (σ1.1 69)) 1 = nI n := n1
    have m2 : (upd (upd (upd N2 3 (nI fn)) 4 (σ1.1 68)) 5 (σ1.1 69)) 1 = nI n := o1
    have t97 : (mSc r1.2 67 (nI (fu + 1))).1 97 = nI dp := r97
    have t97' : (mSc r2.2 67 (nI (fu + 1))).1 97 = nI dp := v97
    rw [m1, m2, t97, t97']
    refine T2_chk (n_in (by omega) (by omega)) (n_in (by omega) (by omega)) ?_
    rw [n_cl (p := n) (by omega), (tc (Fr (60 * (1 + (fu + 1))) 0) _ _ q1 q2).1, (tc (Fr (60 * (1 + (fu + 1))) 0) _ _ q1 q2).2, n_add (p := dp) (by omega)]
    show T2 (fun k => x_GV k (e + 1) 2 7 (upd (upd (upd N1 3 (nI fn)) 4 (σ1.1 68)) 5 (σ1.1 69)) (mSc (mSc r1.2 67 (nI (fu + 1))) 97 (nI (dp + c)))) (fun k => x_GV k (e + 1) 2 7 (upd (upd (upd N2 3 (nI fn)) 4 (σ1.1 68)) 5 (σ1.1 69)) (mSc (mSc r2.2 67 (nI (fu + 1))) 97 (nI (dp + c)))) _
    refine T2_suc (fun k => e_callFunc_7 k _ _ _) (fun k => e_callFunc_7 k _ _ _) ?_
    have e60 : (60 : Int32) * (1 + nI (fu + 1)) = nI (60 * (1 + (fu + 1))) := by
      rw [show (1 : Int32) + nI (fu + 1) = nI (1 + (fu + 1)) from n_add (p := 1) (by omega)]
      exact n_mulN 60 (1 + (fu + 1))
    have y67 : (mSc (mSc r1.2 67 (nI (fu + 1))) 97 (nI (dp + c))).1 67 = nI (fu + 1) := rfl
    have y67' : (mSc (mSc r2.2 67 (nI (fu + 1))) 97 (nI (dp + c))).1 67 = nI (fu + 1) := rfl
    rw [y67, y67', e60]
    show T2 (fun k => x_GV k (e + 1) 2 8 (upd (upd (upd N1 3 (nI fn)) 4 (σ1.1 68)) 5 (σ1.1 69)) (mSc (mSc (mSc r1.2 67 (nI (fu + 1))) 97 (nI (dp + c))) 68 (nI (60 * (1 + (fu + 1)))))) (fun k => x_GV k (e + 1) 2 8 (upd (upd (upd N2 3 (nI fn)) 4 (σ1.1 68)) 5 (σ1.1 69)) (mSc (mSc (mSc r2.2 67 (nI (fu + 1))) 97 (nI (dp + c))) 68 (nI (60 * (1 + (fu + 1)))))) _
    refine T2_suc (fun k => e_callFunc_8 k _ _ _) (fun k => e_callFunc_8 k _ _ _) ?_
    refine T2_suc (fun k => e_callFunc_9 k _ _ _) (fun k => e_callFunc_9 k _ _ _) ?_
    show T2 (fun k => x_GV k (e + 1) 2 10 _ (mSc (mSc (mSc (mSc r1.2 67 (nI (fu + 1))) 97 (nI (dp + c))) 68 (nI (60 * (1 + (fu + 1))))) 69 1)) (fun k => x_GV k (e + 1) 2 10 _ (mSc (mSc (mSc (mSc r2.2 67 (nI (fu + 1))) 97 (nI (dp + c))) 68 (nI (60 * (1 + (fu + 1))))) 69 1)) _
    exact b10 60 0 w' _ _ _ _ (by omega) hfu hdc n1 o1 n2 o2 rfl rfl rfl rfl rfl rfl rfl rfl (FR_tr (FR_tr (FR_tr q1 (FR_sc (x := nI (dp + c)) i97)) (FR_sc (x := nI (60 * (1 + (fu + 1)))) i68)) (FR_sc (x := 1) i69)) (FR_tr (FR_tr (FR_tr q2 (FR_sc (x := nI (dp + c)) i97)) (FR_sc (x := nI (60 * (1 + (fu + 1)))) i68)) (FR_sc (x := 1) i69)) rfl rfl rfl rfl rfl rfl rfl hw (EI_sc i69 (EI_sc i68 (EI_sc i97 (EI_sc i67 hJ2))))
  -- one argument after another
  have b1 : ∀ (f m' j w' : Nat) (x : Int32) (N1 N2 : Nat → Int32) (τ1 τ2 : MS), WN T FN f 3 (O - 1) m' K lc x → j + m' = m → N1 1 = nI n → N2 1 = nI n → N1 2 = nI t → N2 2 = nI t → N1 3 = x → N2 3 = x → FE σ1 τ1 → FE σ2 τ2 → w ≤ w' → EI (t + j) w' XC τ1 τ2 → T2 (fun k => x_GV k (e + 1) 2 1 N1 τ1) (fun k => x_GV k (e + 1) 2 1 N2 τ2) (EQ (178000 + (e + 1)) t w XC σ1 σ2) := by
    intro f
    induction f with
    | zero => intro m' j w' x N1 N2 τ1 τ2 hW; exact hW.elim
    | succ f ih =>
      intro m' j w' x N1 N2 τ1 τ2 hW hjm n1 o1 n2 o2 n3 o3 f1 f2 hw hJ
      unfold WN at hW
      rcases hW with ⟨z, _⟩ | ⟨z, _⟩ | ⟨z, _⟩ | ⟨_, hor⟩ | ⟨z, _⟩ | ⟨z, _⟩ | ⟨z, _⟩
      case inl => exact absurd z (by decide)
      case inr.inl => exact absurd z (by decide)
      case inr.inr.inl => exact absurd z (by decide)
      case inr.inr.inr.inr.inl => exact absurd z (by decide)
      case inr.inr.inr.inr.inr.inl => exact absurd z (by decide)
      case inr.inr.inr.inr.inr.inr => exact absurd z (by decide)
      obtain ⟨e1, e2⟩ := EI_e hJ
      refine T2_suc (fun k => e_callFunc_1 k _ _ _) (fun k => e_callFunc_1 k _ _ _) ?_
      rw [n3, o3, e1, e2]
      rcases hor with ⟨hz, xz⟩ | ⟨m'', c', rm, xc, hc', W0, W9⟩
      · rw [xz]
        refine T2_ite Iff.rfl (fun _ _ => ?_) (fun z _ => absurd rfl z)
        have hj : j = m := by omega
        subst hj
        exact b2 w' _ _ τ1 τ2 n1 o1 n2 o2 f1 f2 hw hJ
      refine T2_ite Iff.rfl (fun z _ => ?_) (fun _ _ => ?_)
      · rw [xc] at z
        have : (nI c').toInt = (-1 : Int32).toInt := by rw [z]
        rw [n_int (by omega), show (-1 : Int32).toInt = -1 from by decide] at this
        omega
      refine T2_ite Iff.rfl (fun _ _ => ?_) (fun z _ => absurd rfl z)
      refine T2_od ?_
      refine T2_ob (hE f (O - 1) 14 K lc x (t + j) w' XC τ1 τ2 _ _ W0 (PC_in (PC_fe hP0 f1 hw (EI_w hJ)) hO (Nat.le_refl _) (by omega) (by omega) (by omega)) hJ rfl rfl) (fun r1 r2 hr => ?_)
      obtain ⟨g1, g2, hr⟩ := hr
      have k1 := FE_tr f1 g1
      have k2 := FE_tr f2 g2
      rw [xc]
      refine T2_chk (n_in (by omega) (by omega)) (n_in (by omega) (by omega)) ?_
      rw [n_cl (p := c') (by omega), (tb _ _ k1 k2 9 _ (by omega) (by omega) (by omega)).1, (tb _ _ k1 k2 9 _ (by omega) (by omega) (by omega)).2]
      rcases hr with ⟨w2, hw2, hJ2⟩ | ⟨z1, z2⟩
      · exact ih m'' (j + 1) w2 (T 9 c') _ _ r1.2 r2.2 W9 (by omega) n1 o1 n2 o2 rfl rfl k1 k2 (by omega) hJ2
      · have z1' : EZ t (178000 + e) r1.2 := EZ_mo z1 (by omega) (Nat.le_refl _)
        have z2' : EZ t (178000 + e) r2.2 := EZ_mo z2 (by omega) (Nat.le_refl _)
        refine T2_suc (fun k => e_callFunc_1 k _ _ _) (fun k => e_callFunc_1 k _ _ _) ?_
        refine T2_ite (c1 := T 9 c' = -1) (c2 := T 9 c' = -1) Iff.rfl (fun _ _ => b2Z _ _ _ _ k1 k2 z1' z2') (fun _ _ => ?_)
        exact T2_ite ⟨fun z => absurd z (EZ_e z1), fun z => absurd z (EZ_e z2)⟩ (fun z _ => absurd z (EZ_e z1)) (fun _ _ => b2Z _ _ _ _ k1 k2 z1' z2')
  refine T2_suc (fun k => e_callFunc_0 k _ _ _) (fun k => e_callFunc_0 k _ _ _) ?_
  obtain ⟨p1, p2⟩ := EI_59 hI
  rw [d1, d2, p1, p2]
  refine T2_chk (n_in (by omega) (by omega)) (n_in (by omega) (by omega)) ?_
  rw [n_cl (p := n) (by omega), hS1.1 6 _ (by omega) (by omega) (by omega), hS2.1 6 _ (by omega) (by omega) (by omega)]
  exact b1 f0 m 0 w (T 6 n) _ _ σ1 σ2 hW (by omega) d1 d2 rfl rfl rfl rfl FE_rf FE_rf (Nat.le_refl _) hI
end ECB
