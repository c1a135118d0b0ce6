/-! Quotients, rests (reference). -/
section DVD
variable {g : Nat → Prop} {l : List Nat} {B h t : Nat} {σ : MS}
theorem s_divide (hP : VP g l B h t σ) {a b n m : Nat} (hA : Wh σ a n) (hB : Wh σ b m) {L : Nat → Int32} (h1 : L 1 = nI a) (h2 : L 2 = nI b) : Tm (fun k => x_divide k 0 L σ) (VO g B h t σ) := by
  obtain ⟨a1, a2, a3, a4, a5⟩ := hA
  have hbb := hB.2.2.2.1
  have hbm := hB.2.1
  have bS := hB.2.2.2.2.2
  refine Tm_suc (fun k => by rw [x_divide]) ?_
  refine Tm_ob (s_signOf hP.1 (m := b) (by omega) (by exact h2)) (fun r0 hr0 => ?_)
  rw [hr0]
  refine Tm_ite (fun _ => ?_) (fun w0 => ?_)
  · refine Tm_ob (s_fail _ σ) (fun r hr => ?_)
    rw [hr]
    exact Tm_some (VO_er hP (e := 2) (by decide))
  refine Tm_suc (fun k => by rw [x_divide]) ?_
  refine Tm_ob (s_loadA hP.1 a1 a2 a3 a4 a5 (by exact h1)) (fun r1 hr1 => ?_)
  obtain ⟨hF1, p84, pA, _, _⟩ := hr1
  obtain ⟨b1, b2, b3, b4, b5⟩ := Wh_NF hF1 hB
  refine Tm_ob (s_loadB (NF_HS hF1 hP.1) b1 b2 b3 b4 b5 (by exact h2)) (fun r2 hr2 => ?_)
  obtain ⟨hF2, p85, pB, q42, q84⟩ := hr2
  have s84 : r2.2.1 84 = nI (n - 1) := q84.trans p84
  refine Tm_ob (s_divideRows (na := n - 1) (nb := m - 1) (by omega) (by omega) s84 p85 pB _) (fun r3 hr3 => ?_)
  obtain ⟨hF3, q43, u85, u89, e, he, u90, uR⟩ := hr3
  have hF := NF_tr hF1 (NF_tr hF2 hF3)
  have uB : LM (r3.2.2.2 43) (m - 1) := by rw [q43]; exact pB
  refine Tm_ob (s_signOf (NF_HS hF hP.1) (m := a) (by omega) (by exact h1)) (fun r4 hr4 => ?_)
  rw [hr4, hF.2 28 (by decide)]
  have bS := bS.resolve_right (fun q => w0 q.2)
  have wf : ∀ (τ : MS) (c : Nat), c ≤ 300 → NF σ τ → τ.1 86 = nI c → LM (τ.2.2 44) c → ∀ x : Int32, SgO x (τ.2.2 44) c → Tm (fun k => ob (x_wholeOf k 0 (upd (fun _ => 0) 1 x) τ) (fun r1 => some (r1.1, r1.2))) (VO g B h t σ) := fun τ c hc hF t86 hLM x hx => VO_NF_Tm hF hP (Tm_ob (s_wholeOf (NF_VP hF hP) hc t86 hLM _ hx) (fun r hr => Tm_some hr))
  -- the rest
  have l7 : ∀ (c j i : Nat) (N : Nat → Int32) (τ : MS), c ≤ 65 → (¬ N 4 = 0 → c ≤ m - 1) → j + i = c → N 6 = nI i → NF σ τ → τ.1 86 = nI c → τ.1 90 = nI e → LM (τ.2.2 44) i → Tm (fun k => x_divide k 7 N τ) (VO g B h t σ) := by
    intro c j
    induction j with
    | zero =>
      intro i N τ hc hc4 hi n6 hF t86 t90 hLM
      refine Tm_suc (fun k => by rw [x_divide]) ?_
      rw [t86, n6]
      refine Tm_ite (fun _ => ?_) (fun q => absurd ((n_le (by omega) (by omega)).mpr (by omega)) q)
      refine Tm_suc (fun k => by rw [x_divide]) ?_
      exact wf τ c (by omega) hF t86 (LM_mo hLM (by omega)) _ (Or.inl (Or.inl rfl))
    | succ j ih =>
      intro i N τ hc hc4 hi n6 hF t86 t90 hLM
      have l13 : ∀ N : Nat → Int32, (¬ N 4 = 0 → c ≤ m - 1) → N 6 = nI i → Tm (fun k => x_divide k 13 N τ) (VO g B h t σ) := fun N n4 n6 => by
        refine Tm_suc (fun k => by rw [x_divide]) ?_
        rw [n6]
        refine Tm_chk (n_in (by omega) (by omega)) ?_
        rw [n_cl (p := i) (by omega)]
        show Tm (fun k => x_divide k 14 (upd N 5 (N 100)) (mAr τ 44 i (N 8 &&& 65535))) _
        refine Tm_suc (fun k => by rw [x_divide]) ?_
        exact ih (i + 1) _ _ hc n4 (by omega) (by show N 6 + 1 = _; rw [n6, n_add1]) (NF_tr hF (NF_ar (by decide))) t86 t90 (by rw [mAr_s]; exact LM_suc hLM (n_and16 _))
      have l12 : ∀ N : Nat → Int32, (¬ N 4 = 0 → c ≤ m - 1) → N 6 = nI i → Tm (fun k => x_divide k 12 N τ) (VO g B h t σ) := fun N n4 n6 => by
        refine Tm_suc (fun k => by rw [x_divide]) ?_
        exact l13 _ n4 n6
      have l11 : ∀ N : Nat → Int32, (¬ N 4 = 0 → c ≤ m - 1) → N 6 = nI i → Tm (fun k => x_divide k 11 N τ) (VO g B h t σ) := fun N n4 n6 => by
        refine Tm_suc (fun k => by rw [x_divide]) ?_
        refine Tm_ite (fun _ => l12 _ n4 n6) (fun _ => ?_)
        exact Tm_ite (fun _ => l12 _ n4 n6) (fun _ => l13 _ n4 n6)
      have l9 : ∀ N : Nat → Int32, (¬ N 4 = 0 → c ≤ m - 1) → N 6 = nI i → Tm (fun k => x_divide k 9 N τ) (VO g B h t σ) := fun N n4 n6 => by
        refine Tm_suc (fun k => by rw [x_divide]) ?_
        refine Tm_ite (fun _ => ?_) (fun w => ?_)
        · refine Tm_suc (fun k => by rw [x_divide]) ?_
          exact l11 _ n4 n6
        · have := n4 w
          rw [n6]
          refine Tm_chk (n_in (by omega) (by omega)) ?_
          exact l11 _ n4 n6
      refine Tm_suc (fun k => by rw [x_divide]) ?_
      rw [t86, n6, t90]
      refine Tm_ite (fun q => absurd ((n_le (by omega) (by omega)).mp q) (by omega)) (fun _ => ?_)
      refine Tm_ite (fun _ => ?_) (fun _ => ?_)
      · refine Tm_suc (fun k => by rw [x_divide]) ?_
        exact l9 _ hc4 n6
      · refine Tm_chk (n_in (by omega) (by omega)) ?_
        exact l9 _ hc4 n6
  -- the quotient
  have l24 : ∀ (c : Nat) (N : Nat → Int32) (τ : MS), c ≤ 66 → N 1 = nI a → N 2 = nI b → NF σ τ → τ.1 86 = nI c → LM (τ.2.2 44) c → (σ.2.2 28 (a + 4) = 0 → c = 0) → Tm (fun k => x_divide k 24 N τ) (VO g B h t σ) := fun c N τ hc n1 n2 hF t86 hLM hZ => by
    refine Tm_suc (fun k => by rw [x_divide]) ?_
    refine Tm_ob (s_signOf (NF_HS hF hP.1) (m := a) (by omega) (by exact n1)) (fun r3 hr3 => ?_)
    rw [hr3]
    refine Tm_ob (s_signOf (NF_HS hF hP.1) (m := b) (by omega) (by exact n2)) (fun r4 hr4 => ?_)
    rw [hr4, hF.2 28 (by decide)]
    refine VO_NF_Tm hF hP (Tm_ob (s_wholeOf (NF_VP hF hP) (by omega) t86 hLM _ ?_) (fun r hr => Tm_some hr))
    show SgO (σ.2.2 28 (a + 4) * σ.2.2 28 (b + 4)) _ _
    rcases a5.2 with q | q
    · exact Or.inl (Sg_mul q bS)
    · exact Or.inr (fun i hi => by have := hZ q.2; omega)
  have l20 : ∀ (j i : Nat) (N : Nat → Int32) (τ : MS), j + i = n - 1 → N 1 = nI a → N 2 = nI b → N 6 = nI i → (¬ N 5 ≤ 0 → ∃ d, d ≤ 65535 ∧ N 5 = nI d) → (σ.2.2 28 (a + 4) = 0 → n - 1 = 0 ∧ N 5 ≤ 0) → NF σ τ → τ.1 86 = nI (n - 1) → LM (τ.2.2 44) i → Tm (fun k => x_divide k 20 N τ) (VO g B h t σ) := by
    intro j
    induction j with
    | zero =>
      intro i N τ hi n1 n2 n6 n5 hZ hF t86 hLM
      refine Tm_suc (fun k => by rw [x_divide]) ?_
      rw [t86, n6]
      refine Tm_ite (fun _ => ?_) (fun q => absurd ((n_le (by omega) (by omega)).mpr (by omega)) q)
      refine Tm_suc (fun k => by rw [x_divide]) ?_
      refine Tm_ite (fun _ => l24 (n - 1) N τ (by omega) n1 n2 hF t86 (LM_mo hLM (by omega)) (fun q => (hZ q).1)) (fun z => ?_)
      rw [t86]
      refine Tm_chk (n_in (by omega) (by omega)) ?_
      rw [n_cl (p := n - 1) (by omega)]
      show Tm (fun k => x_divide k 23 N (mAr τ 44 (n - 1) (N 5))) _
      refine Tm_suc (fun k => by rw [x_divide]) ?_
      show Tm (fun k => x_divide k 24 N (mSc (mAr τ 44 (n - 1) (N 5)) 86 (τ.1 86 + 1))) _
      rw [t86, n_add1]
      exact l24 (n - 1 + 1) N _ (by omega) n1 n2 (NF_tr hF (NF_tr (NF_ar (by decide)) (NF_sc (by decide)))) rfl (by show LM ((mAr τ 44 (n - 1) (N 5)).2.2 44) (n - 1 + 1); rw [mAr_s]; exact LM_suc (LM_mo hLM (by omega)) (n5 z)) (fun q => absurd (hZ q).2 z)
    | succ j ih =>
      intro i N τ hi n1 n2 n6 n5 hZ hF t86 hLM
      refine Tm_suc (fun k => by rw [x_divide]) ?_
      rw [t86, n6]
      refine Tm_ite (fun q => absurd ((n_le (by omega) (by omega)).mp q) (by omega)) (fun _ => ?_)
      refine Tm_chk (n_in (by omega) (by omega)) ?_
      refine Tm_chk (n_in (by omega) (by omega)) ?_
      rw [n_cl (p := i) (by omega)]
      generalize τ.2.2 45 i + N 5 = x
      show Tm (fun k => x_divide k 21 (upd N 7 x) (mAr τ 44 i (x &&& 65535))) _
      refine Tm_suc (fun k => by rw [x_divide]) ?_
      exact ih (i + 1) _ _ (by omega) n1 n2 (by show N 6 + 1 = _; rw [n6, n_add1]) (fun z => n_shr16 x z) (fun q => by have := (hZ q).1; omega) (NF_tr hF (NF_ar (by decide))) t86 (by rw [mAr_s]; exact LM_suc hLM (n_and16 _))
  have l3 : ∀ N : Nat → Int32, N 1 = nI a → N 2 = nI b → (σ.2.2 28 (a + 4) = 0 → N 100 = 0) → Tm (fun k => x_divide k 3 N r3.2) (VO g B h t σ) := fun N n1 n2 n100 => by
    have nil : LM (r3.2.2.2 44) 0 := fun i hi => absurd hi (Nat.not_lt_zero i)
    refine Tm_suc (fun k => by rw [x_divide]) ?_
    refine Tm_ite (fun _ => ?_) (fun _ => ?_)
    · refine Tm_suc (fun k => by rw [x_divide]) ?_
      rw [u89]
      show Tm (fun k => x_divide k 17 (upd N 4 (N 100)) (mSc r3.2 86 (nI (n - 1)))) _
      have l19 : ∀ M : Nat → Int32, M 1 = nI a → M 2 = nI b → (M 100 = 0 ∨ M 100 = 1) → (σ.2.2 28 (a + 4) = 0 → M 100 = 0) → Tm (fun k => x_divide k 19 M (mSc r3.2 86 (nI (n - 1)))) (VO g B h t σ) := fun M m1 m2 m100 mz => by
        refine Tm_suc (fun k => by rw [x_divide]) ?_
        refine l20 (n - 1) 0 _ _ (by omega) m1 m2 rfl (fun z => ?_) (fun q => ⟨?_, ?_⟩) (NF_tr hF (NF_sc (by decide))) rfl nil
        · show ∃ d, d ≤ 65535 ∧ M 100 = nI d
          rcases m100 with q | q
          · exact ⟨0, by decide, q⟩
          · exact ⟨1, by decide, q⟩
        · rcases a5.2 with (p | p) | p
          · rw [p] at q; exact absurd q (by decide)
          · rw [p] at q; exact absurd q (by decide)
          · omega
        · show M 100 ≤ 0
          rw [mz q]; decide
      refine Tm_suc (fun k => by rw [x_divide]) ?_
      refine Tm_ite (fun _ => ?_) (fun w1 => l19 _ n1 n2 (Or.inr rfl) (fun q => absurd (n100 q) w1))
      refine Tm_suc (fun k => by rw [x_divide]) ?_
      exact l19 _ n1 n2 (Or.inl rfl) (fun _ => rfl)
    · have l5 : ∀ (c : Nat) (M : Nat → Int32), c ≤ 65 → (¬ M 4 = 0 → c ≤ m - 1) → M 100 = nI c → Tm (fun k => x_divide k 5 M r3.2) (VO g B h t σ) := fun c M hc m4 m100 => by
        refine Tm_suc (fun k => by rw [x_divide]) ?_
        rw [m100]
        show Tm (fun k => x_divide k 6 M (mSc r3.2 86 (nI c))) _
        refine Tm_suc (fun k => by rw [x_divide]) ?_
        exact l7 c c 0 _ _ hc m4 (by omega) rfl (NF_tr hF (NF_sc (by decide))) rfl u90 nil
      refine Tm_ite (fun w => ?_) (fun _ => ?_)
      · refine Tm_suc (fun k => by rw [x_divide]) ?_
        exact l5 e _ he (fun z => absurd w z) u90
      · exact l5 (m - 1) _ (by omega) (fun _ => Nat.le_refl _) u85
  have l2 : Tm (fun k => x_divide k 2 L r3.2) (VO g B h t σ) := by
    refine Tm_suc (fun k => by rw [x_divide]) ?_
    exact l3 _ h1 h2 (fun _ => rfl)
  refine Tm_ite (fun _ => l2) (fun w1 => ?_)
  exact Tm_ite (fun _ => l2) (fun _ => l3 _ h1 h2 (fun q => absurd (by rw [q]; show (0 : Int32) ≤ 0; decide) w1))
end DVD
