/-! Sums, products of wholes (reference). -/
section ADD
variable {g : Nat → Prop} {l : List Nat} {B h t : Nat} {σ : MS}
theorem n_m1 : nI 0 - 1 = -1 := rfl
theorem s_cmpR42 {n : Nat} (hn : n ≤ 139) {L : Nat → Int32} (h1 : L 1 = nI n) : Tm (fun k => x_compareRows__42__43 k 0 L σ) (fun r => r.2 = σ) := by
  have l2 : ∀ N : Nat → Int32, Tm (fun k => x_compareRows__42__43 k 2 N σ) (fun r => r.2 = σ) := fun N => by
    refine Tm_suc (fun k => by rw [x_compareRows__42__43]) ?_
    exact Tm_some rfl
  have l1 : ∀ (i : Nat) (N : Nat → Int32), i ≤ 139 → N 5 = nI i - 1 → Tm (fun k => x_compareRows__42__43 k 1 N σ) (fun r => r.2 = σ) := by
    intro i
    induction i with
    | zero =>
      intro N hi n5
      refine Tm_suc (fun k => by rw [x_compareRows__42__43]) ?_
      rw [n5]
      exact Tm_ite (fun _ => l2 N) (fun z => absurd (show nI 0 - 1 < 0 by decide) z)
    | succ i ih =>
      intro N hi n5
      rw [show nI (i + 1) - 1 = nI i from n_sub (p := i + 1) (q := 1) (by omega) (by omega)] at n5
      refine Tm_suc (fun k => by rw [x_compareRows__42__43]) ?_
      rw [n5]
      refine Tm_ite (fun _ => l2 N) (fun _ => ?_)
      refine Tm_ite (fun _ => ?_) (fun _ => l2 N)
      refine Tm_chk (n_in (by omega) (by omega)) ?_
      refine Tm_chk (n_in (by omega) (by omega)) ?_
      exact ih _ (by omega) (by show nI i + (-1) = nI i - 1; exact (Int32.sub_eq_add_neg _ _).symm)
  refine Tm_suc (fun k => by rw [x_compareRows__42__43]) ?_
  rw [h1]
  exact l1 n _ hn rfl
theorem s_cmpR46 {n : Nat} (hn : n ≤ 139) {L : Nat → Int32} (h1 : L 1 = nI n) : Tm (fun k => x_compareRows__46__43 k 0 L σ) (fun r => r.2 = σ) := by
  have l2 : ∀ N : Nat → Int32, Tm (fun k => x_compareRows__46__43 k 2 N σ) (fun r => r.2 = σ) := fun N => by
    refine Tm_suc (fun k => by rw [x_compareRows__46__43]) ?_
    exact Tm_some rfl
  have l1 : ∀ (i : Nat) (N : Nat → Int32), i ≤ 139 → N 5 = nI i - 1 → Tm (fun k => x_compareRows__46__43 k 1 N σ) (fun r => r.2 = σ) := by
    intro i
    induction i with
    | zero =>
      intro N hi n5
      refine Tm_suc (fun k => by rw [x_compareRows__46__43]) ?_
      rw [n5]
      exact Tm_ite (fun _ => l2 N) (fun z => absurd (show nI 0 - 1 < 0 by decide) z)
    | succ i ih =>
      intro N hi n5
      rw [show nI (i + 1) - 1 = nI i from n_sub (p := i + 1) (q := 1) (by omega) (by omega)] at n5
      refine Tm_suc (fun k => by rw [x_compareRows__46__43]) ?_
      rw [n5]
      refine Tm_ite (fun _ => l2 N) (fun _ => ?_)
      refine Tm_ite (fun _ => ?_) (fun _ => l2 N)
      refine Tm_chk (n_in (by omega) (by omega)) ?_
      refine Tm_chk (n_in (by omega) (by omega)) ?_
      exact ih _ (by omega) (by show nI i + (-1) = nI i - 1; exact (Int32.sub_eq_add_neg _ _).symm)
  refine Tm_suc (fun k => by rw [x_compareRows__46__43]) ?_
  rw [h1]
  exact l1 n _ hn rfl
/-- the signs of the two, as add holds them -/
def SgP (N : Nat → Int32) : Prop := (N 4 = 1 ∨ N 4 = -1) ∨ (N 4 = 0 ∧ (N 5 = 1 ∨ N 5 = -1))
def SgQ (N : Nat → Int32) : Prop := (N 4 = 1 ∨ N 4 = -1) ∧ (N 5 = 1 ∨ N 5 = -1)
theorem SgP_0 {N : Nat → Int32} {R : Nat → Int32} {c : Nat} (h : SgP N ∨ c = 0) (z : N 4 = 0) : SgO (N 5) R c := by
  rcases h with ((q | q) | q) | q
  · rw [q] at z; exact absurd z (by decide)
  · rw [q] at z; exact absurd z (by decide)
  · exact Or.inl q.2
  · exact Or.inr (fun i hi => by omega)
theorem SgP_1 {N : Nat → Int32} {R : Nat → Int32} {c : Nat} (h : SgP N ∨ c = 0) (z : ¬ N 4 = 0) : SgO (N 4) R c := by
  rcases h with (q | q) | q
  · exact Or.inl q
  · exact absurd q.1 z
  · exact Or.inr (fun i hi => by omega)
theorem Sg_mul {x y : Int32} (hx : x = 1 ∨ x = -1) (hy : y = 1 ∨ y = -1) : x * y = 1 ∨ x * y = -1 := by
  rcases hx with rfl | rfl <;> rcases hy with rfl | rfl <;> decide
theorem Sg_add {H : Nat → Int32} {a b n m : Nat} {L : Nat → Int32} (ha : SgOK H a n) (hb : SgOK H b m) (h3 : L 3 = 1 ∨ L 3 = -1) : (H (a + 4) = 0 → SgP (upd (upd L 4 (H (a + 4))) 5 (H (b + 4) * L 3)) ∨ (n = 1 ∧ m = 1)) ∧ (¬ H (a + 4) = 0 → SgP (upd (upd L 4 (H (a + 4))) 5 (H (b + 4) * L 3)) ∨ (n = 1 ∧ m = 1)) ∧ (¬ H (a + 4) = 0 → ¬ H (b + 4) * L 3 = 0 → SgQ (upd (upd L 4 (H (a + 4))) 5 (H (b + 4) * L 3))) := by
  refine ⟨fun z => ?_, fun z => Or.inl (Or.inl ?_), fun z w => ⟨?_, ?_⟩⟩
  · rcases ha with (q | q) | q
    · rw [q] at z; exact absurd z (by decide)
    · rw [q] at z; exact absurd z (by decide)
    rcases hb with p | p
    · exact Or.inl (Or.inr ⟨z, Sg_mul p h3⟩)
    · exact Or.inr ⟨q.1, p.1⟩
  · show H (a + 4) = 1 ∨ H (a + 4) = -1
    exact ha.resolve_right (fun q => z q.2)
  · show H (a + 4) = 1 ∨ H (a + 4) = -1
    exact ha.resolve_right (fun q => z q.2)
  · show H (b + 4) * L 3 = 1 ∨ H (b + 4) * L 3 = -1
    refine Sg_mul (hb.resolve_right (fun q => w ?_)) h3
    rw [q.2]
    rcases h3 with p | p <;> rw [p] <;> decide
theorem s_add (hP : VP g l B h t σ) {a b n m : Nat} (hA : Wh σ a n) (hB : Wh σ b m) {L : Nat → Int32} (h1 : L 1 = nI a) (h2 : L 2 = nI b) (h3 : L 3 = 1 ∨ L 3 = -1) : Tm (fun k => x_add k 0 L σ) (VO g B h t σ) := by
  obtain ⟨a1, a2, a3, a4, a5⟩ := hA
  refine Tm_suc (fun k => by rw [x_add]) ?_
  refine Tm_ob (s_loadA hP.1 a1 a2 a3 a4 a5 (by exact h1)) (fun r1 hr1 => ?_)
  obtain ⟨hF1, p84, pA, _, _⟩ := hr1
  have bS := hB.2.2.2.2.2
  obtain ⟨b1, b2, b3, b4, b5⟩ := Wh_NF hF1 hB
  refine Tm_ob (s_loadB (NF_HS hF1 hP.1) b1 b2 b3 b4 b5 (by exact h2)) (fun r2 hr2 => ?_)
  obtain ⟨hF2, p85, pB, q42, q84⟩ := hr2
  have hF := NF_tr hF1 hF2
  have s84 : r2.2.1 84 = nI (n - 1) := q84.trans p84
  have sA : LM (r2.2.2.2 42) (n - 1) := by rw [q42]; exact pA
  refine Tm_ob (s_signOf (NF_HS hF hP.1) (m := a) (by omega) (by exact h1)) (fun r3 hr3 => ?_)
  rw [hr3]
  refine Tm_ob (s_signOf (NF_HS hF hP.1) (m := b) (by omega) (by exact h2)) (fun r4 hr4 => ?_)
  rw [hr4]
  have s28 : r2.2.2.2 28 = σ.2.2 28 := hF.2 28 (by decide)
  rw [s28]
  -- the answer
  have wf : ∀ (N : Nat → Int32) (τ : MS) (c : Nat), c ≤ 300 → NF σ τ → τ.1 86 = nI c → LM (τ.2.2 44) c → ∀ x : Int32, SgO x (τ.2.2 44) c → Tm (fun k => ob (x_wholeOf k 0 (upd (fun _ => 0) 1 x) τ) (fun r1 => some (r1.1, r1.2))) (VO g B h t σ) := fun N τ c hc hF t86 hLM x hx => VO_NF_Tm hF hP (Tm_ob (s_wholeOf (NF_VP hF hP) hc t86 hLM _ hx) (fun r hr => Tm_some hr))
  have l13 : ∀ (N : Nat → Int32) (τ : MS) (c : Nat), c ≤ 300 → NF σ τ → τ.1 86 = nI c → LM (τ.2.2 44) c → (SgP N ∨ c = 0) → Tm (fun k => x_add k 13 N τ) (VO g B h t σ) := fun N τ c hc hF t86 hLM hG => by
    have l15 : ∀ N : Nat → Int32, SgO (N 100) (τ.2.2 44) c → Tm (fun k => x_add k 15 N τ) (VO g B h t σ) := fun N hx => by
      refine Tm_suc (fun k => by rw [x_add]) ?_
      exact wf N τ c hc hF t86 hLM _ hx
    refine Tm_suc (fun k => by rw [x_add]) ?_
    refine Tm_ite (fun w0 => l15 _ (SgP_0 hG w0)) (fun w0 => ?_)
    refine Tm_suc (fun k => by rw [x_add]) ?_
    exact l15 _ (SgP_1 hG w0)
  have l30 : ∀ (N : Nat → Int32) (τ : MS) (c : Nat), c ≤ 300 → NF σ τ → τ.1 86 = nI c → LM (τ.2.2 44) c → SgQ N → Tm (fun k => x_add k 30 N τ) (VO g B h t σ) := fun N τ c hc hF t86 hLM hG => by
    have l32 : ∀ N : Nat → Int32, (N 100 = 1 ∨ N 100 = -1) → Tm (fun k => x_add k 32 N τ) (VO g B h t σ) := fun N hx => by
      refine Tm_suc (fun k => by rw [x_add]) ?_
      exact wf N τ c hc hF t86 hLM _ (Or.inl hx)
    refine Tm_suc (fun k => by rw [x_add]) ?_
    refine Tm_ite (fun _ => ?_) (fun _ => l32 _ hG.1)
    refine Tm_suc (fun k => by rw [x_add]) ?_
    exact l32 _ hG.2
  -- sums
  have l5 : ∀ (c j i : Nat) (N : Nat → Int32) (τ : MS), c ≤ 64 → j + i = c → N 7 = nI i → (¬ N 6 ≤ 0 → ∃ d, d ≤ 65535 ∧ N 6 = nI d) → (SgP N ∨ (c = 0 ∧ N 6 ≤ 0)) → NF σ τ → τ.1 84 = nI (n - 1) → τ.1 85 = nI (m - 1) → τ.1 86 = nI c → LM (τ.2.2 44) i → Tm (fun k => x_add k 5 N τ) (VO g B h t σ) := by
    intro c j
    induction j with
    | zero =>
      intro i N τ hc hi n7 n6 hG hF t84 t85 t86 hLM
      refine Tm_suc (fun k => by rw [x_add]) ?_
      rw [t86, n7]
      refine Tm_ite (fun _ => ?_) (fun q => absurd ((n_le (by omega) (by omega)).mpr (by omega)) q)
      refine Tm_suc (fun k => by rw [x_add]) ?_
      refine Tm_ite (fun _ => l13 N τ c (by omega) hF t86 (LM_mo hLM (by omega)) (hG.imp id And.left)) (fun z => ?_)
      rw [t86]
      refine Tm_chk (n_in (by omega) (by omega)) ?_
      rw [n_cl (p := c) (by omega)]
      show Tm (fun k => x_add k 12 N (mAr τ 44 c (N 6))) _
      refine Tm_suc (fun k => by rw [x_add]) ?_
      show Tm (fun k => x_add k 13 N (mSc (mAr τ 44 c (N 6)) 86 (τ.1 86 + 1))) _
      rw [t86, n_add1]
      exact l13 N _ (c + 1) (by omega) (NF_tr hF (NF_tr (NF_ar (by decide)) (NF_sc (by decide)))) rfl (by show LM ((mAr τ 44 c (N 6)).2.2 44) (c + 1); rw [mAr_s]; exact LM_suc (LM_mo hLM (by omega)) (n6 z)) (Or.inl (hG.resolve_right (fun q => z q.2)))
    | succ j ih =>
      intro i N τ hc hi n7 n6 hG hF t84 t85 t86 hLM
      have l9 : ∀ N : Nat → Int32, SgP N → N 7 = nI i → Tm (fun k => x_add k 9 N τ) (VO g B h t σ) := fun N gN n7 => by
        refine Tm_suc (fun k => by rw [x_add]) ?_
        rw [n7]
        refine Tm_chk (n_in (by omega) (by omega)) ?_
        rw [n_cl (p := i) (by omega)]
        generalize N 102 + (N 101 + N 100) = x
        show Tm (fun k => x_add k 10 (upd N 6 x) (mAr τ 44 i (x &&& 65535))) _
        refine Tm_suc (fun k => by rw [x_add]) ?_
        exact ih (i + 1) _ _ hc (by omega) (by show N 7 + 1 = _; rw [n7, n_add1]) (fun z => n_shr16 x z) (Or.inl gN) (NF_tr hF (NF_ar (by decide))) t84 t85 t86 (by rw [mAr_s]; exact LM_suc hLM (n_and16 _))
      have l7 : ∀ N : Nat → Int32, SgP N → N 7 = nI i → Tm (fun k => x_add k 7 N τ) (VO g B h t σ) := fun N gN n7 => by
        refine Tm_suc (fun k => by rw [x_add]) ?_
        rw [t85, n7]
        refine Tm_ite (fun _ => ?_) (fun _ => ?_)
        · refine Tm_suc (fun k => by rw [x_add]) ?_
          exact l9 _ gN n7
        · refine Tm_chk (n_in (by omega) (by omega)) ?_
          exact l9 _ gN n7
      have gN : SgP N := hG.resolve_right (fun q => by omega)
      refine Tm_suc (fun k => by rw [x_add]) ?_
      rw [t86, n7, t84]
      refine Tm_ite (fun q => absurd ((n_le (by omega) (by omega)).mp q) (by omega)) (fun _ => ?_)
      refine Tm_ite (fun _ => ?_) (fun _ => ?_)
      · refine Tm_suc (fun k => by rw [x_add]) ?_
        exact l7 _ gN n7
      · refine Tm_chk (n_in (by omega) (by omega)) ?_
        exact l7 _ gN n7
  -- differences
  have l20 : ∀ (c j i : Nat) (N : Nat → Int32) (τ : MS), c ≤ 64 → j + i = c → N 8 = nI i → SgQ N → NF σ τ → τ.1 84 = nI (n - 1) → τ.1 85 = nI (m - 1) → τ.1 86 = nI c → LM (τ.2.2 44) i → Tm (fun k => x_add k 20 N τ) (VO g B h t σ) := by
    intro c j
    induction j with
    | zero =>
      intro i N τ hc hi n7 hG hF t84 t85 t86 hLM
      refine Tm_suc (fun k => by rw [x_add]) ?_
      rw [t86, n7]
      exact Tm_ite (fun _ => l30 N τ c (by omega) hF t86 (LM_mo hLM (by omega)) hG) (fun q => absurd ((n_le (by omega) (by omega)).mpr (by omega)) q)
    | succ j ih =>
      intro i N τ hc hi n7 hG hF t84 t85 t86 hLM
      have l28 : ∀ N : Nat → Int32, SgQ N → N 8 = nI i → Tm (fun k => x_add k 28 N τ) (VO g B h t σ) := fun N gN n7 => by
        refine Tm_suc (fun k => by rw [x_add]) ?_
        rw [n7]
        refine Tm_chk (n_in (by omega) (by omega)) ?_
        rw [n_cl (p := i) (by omega)]
        show Tm (fun k => x_add k 29 (upd N 7 (N 100)) (mAr τ 44 i (N 11 &&& 65535))) _
        refine Tm_suc (fun k => by rw [x_add]) ?_
        exact ih (i + 1) _ _ hc (by omega) (by show N 8 + 1 = _; rw [n7, n_add1]) gN (NF_tr hF (NF_ar (by decide))) t84 t85 t86 (by rw [mAr_s]; exact LM_suc hLM (n_and16 _))
      have l26 : ∀ N : Nat → Int32, SgQ N → N 8 = nI i → Tm (fun k => x_add k 26 N τ) (VO g B h t σ) := fun N gN n7 => by
        refine Tm_suc (fun k => by rw [x_add]) ?_
        refine Tm_ite (fun _ => ?_) (fun _ => l28 _ gN n7)
        refine Tm_suc (fun k => by rw [x_add]) ?_
        exact l28 _ gN n7
      have l24 : ∀ N : Nat → Int32, SgQ N → N 8 = nI i → Tm (fun k => x_add k 24 N τ) (VO g B h t σ) := fun N gN n7 => by
        refine Tm_suc (fun k => by rw [x_add]) ?_
        refine Tm_ite (fun _ => ?_) (fun _ => l26 _ gN n7)
        refine Tm_suc (fun k => by rw [x_add]) ?_
        exact l26 _ gN n7
      have l22 : ∀ N : Nat → Int32, SgQ N → N 8 = nI i → Tm (fun k => x_add k 22 N τ) (VO g B h t σ) := fun N gN n7 => by
        refine Tm_suc (fun k => by rw [x_add]) ?_
        rw [t85, n7]
        refine Tm_ite (fun _ => ?_) (fun _ => ?_)
        · refine Tm_suc (fun k => by rw [x_add]) ?_
          exact l24 _ gN n7
        · refine Tm_chk (n_in (by omega) (by omega)) ?_
          exact l24 _ gN n7
      refine Tm_suc (fun k => by rw [x_add]) ?_
      rw [t86, n7, t84]
      refine Tm_ite (fun q => absurd ((n_le (by omega) (by omega)).mp q) (by omega)) (fun _ => ?_)
      refine Tm_ite (fun _ => ?_) (fun _ => ?_)
      · refine Tm_suc (fun k => by rw [x_add]) ?_
        exact l22 _ hG n7
      · refine Tm_chk (n_in (by omega) (by omega)) ?_
        exact l22 _ hG n7
  have nil : LM (r2.2.2.2 44) 0 := fun i hi => absurd hi (Nat.not_lt_zero i)
  have go1 : ∀ N : Nat → Int32, (SgP N ∨ (n = 1 ∧ m = 1)) → Tm (fun k => x_add k 1 N r2.2) (VO g B h t σ) := fun N gN => by
    have l3 : ∀ (c : Nat) (N : Nat → Int32), c ≤ 64 → N 6 = 0 → N 100 = nI c → (SgP N ∨ c = 0) → Tm (fun k => x_add k 3 N r2.2) (VO g B h t σ) := fun c N hc n6 n100 gN => by
      refine Tm_suc (fun k => by rw [x_add]) ?_
      rw [n100]
      show Tm (fun k => x_add k 4 N (mSc r2.2 86 (nI c))) _
      refine Tm_suc (fun k => by rw [x_add]) ?_
      have n6' : N 6 ≤ 0 := by rw [n6]; decide
      refine l5 c c 0 _ _ hc (by omega) rfl (fun z => absurd n6' z) (gN.imp id (fun q => ⟨q, n6'⟩)) (NF_tr hF (NF_sc (by decide))) s84 p85 rfl nil
    refine Tm_suc (fun k => by rw [x_add]) ?_
    refine Tm_ite (fun _ => ?_) (fun _ => ?_)
    · refine Tm_suc (fun k => by rw [x_add]) ?_
      exact l3 (m - 1) _ (by omega) rfl p85 (gN.imp id (fun q => by omega))
    · exact l3 (n - 1) _ (by omega) rfl s84 (gN.imp id (fun q => by omega))
  have go16 : ∀ N : Nat → Int32, SgQ N → Tm (fun k => x_add k 16 N r2.2) (VO g B h t σ) := fun N gN => by
    have l18 : ∀ (c : Nat) (N : Nat → Int32), c ≤ 64 → N 100 = nI c → SgQ N → Tm (fun k => x_add k 18 N r2.2) (VO g B h t σ) := fun c N hc n100 gN => by
      refine Tm_suc (fun k => by rw [x_add]) ?_
      rw [n100]
      show Tm (fun k => x_add k 19 N (mSc r2.2 86 (nI c))) _
      refine Tm_suc (fun k => by rw [x_add]) ?_
      exact l20 c c 0 _ _ hc (by omega) rfl gN (NF_tr hF (NF_sc (by decide))) s84 p85 rfl nil
    refine Tm_suc (fun k => by rw [x_add]) ?_
    refine Tm_ob (s_cmpR42 (n := n - 1) (by omega) (by exact s84)) (fun r5 hr5 => ?_)
    rw [hr5]
    refine Tm_ite (fun _ => ?_) (fun _ => ?_)
    · refine Tm_suc (fun k => by rw [x_add]) ?_
      exact l18 (m - 1) _ (by omega) p85 gN
    · exact l18 (n - 1) _ (by omega) s84 gN
  obtain ⟨z1, z2, z3⟩ := Sg_add a5.2 bS h3
  refine Tm_ite (fun w0 => go1 _ (z1 w0)) (fun w0 => ?_)
  refine Tm_ite (fun w1 => go1 _ (z2 w0)) (fun w1 => ?_)
  exact Tm_ite (fun _ => go1 _ (z2 w0)) (fun _ => go16 _ (z3 w0 w1))
end ADD
