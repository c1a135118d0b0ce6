/-! Statements on both sides (reference): a point is made. -/
/-- the state is copied, up to i -/
def CpT (P i : Nat) (τ ρ : MS) : Prop := ρ.1 = τ.1 ∧ ρ.2.1 = τ.2.1 ∧ (∀ a, a ≠ 31 → ρ.2.2 a = τ.2.2 a) ∧ (∀ j, j < i → ρ.2.2 31 (11514 * P + j) = τ.2.2 30 j) ∧ ∀ j, ¬ (11514 * P ≤ j ∧ j < 11514 * P + i) → ρ.2.2 31 j = τ.2.2 31 j
theorem Cp_1 {P i : Nat} {τ ρ : MS} (h : CpT P i τ ρ) : CpT P (i + 1) τ (mAr ρ 31 (11514 * P + i) (τ.2.2 30 i)) := by
  obtain ⟨h1, h2, h3, h4, h5⟩ := h
  refine ⟨h1, h2, fun a ha => (mAr_o ha).trans (h3 a ha), fun j hj => ?_, fun j hj => ?_⟩
  · rw [mAr_s]
    by_cases e : j = i
    · rw [e, upd_same]
    · rw [upd_other (by omega)]; exact h4 j (by omega)
  · rw [mAr_s, upd_other (by omega)]; exact h5 j (by omega)
/-- what a point leaves -/
def Mpt (P : Nat) (τ ρ : MS) : Prop := (∀ j, j ≠ 63 → j ≠ 65 → ρ.1 j = τ.1 j) ∧ ρ.2.1 = τ.2.1 ∧ (∀ a, a ≠ 31 → a ≠ 32 → ρ.2.2 a = τ.2.2 a) ∧ (∀ j, j < 11514 → ρ.2.2 31 (11514 * P + j) = τ.2.2 30 j) ∧ (∀ j, ¬ (11514 * P ≤ j ∧ j < 11514 * P + 11514) → ρ.2.2 31 j = τ.2.2 31 j) ∧ (∀ j, j ≠ P → ρ.2.2 32 j = τ.2.2 32 j) ∧ ρ.2.2 32 P = τ.1 64 ∧ ρ.1 65 = τ.1 65 + τ.1 64 ∧ ρ.1 63 = nI (P + 1)
section MKP
variable {P t w XC : Nat} {τ ρ τ1 τ2 ρ1 ρ2 : MS}
theorem s_copy (hP : τ.1 63 = nI P) (h20 : P < 20) : ∀ (d i : Nat) (ρ : MS) (N : Nat → Int32), d + i = 11514 → CpT P i τ ρ → N 2 = nI i → Tm (fun k => x_makePoint k 4 N ρ) (fun r => r.1 = 0 ∧ Mpt P τ r.2) := by
  intro d
  induction d with
  | zero =>
    intro i ρ N hd hC n2
    have ei : i = 11514 := by omega
    subst ei
    obtain ⟨h1, h2, h3, h4, h5⟩ := hC
    refine Tm_suc (fun k => by rw [x_makePoint]) ?_
    rw [n2]
    refine Tm_ite (fun _ => ?_) (fun z => absurd ((n_le (p := 11514) (q := 11514) (by decide) (by decide)).mpr (Nat.le_refl _)) z)
    refine Tm_suc (fun k => by rw [x_makePoint]) ?_
    rw [show ρ.1 63 = nI P from by rw [h1]; exact hP]
    refine Tm_chk (n_in (by omega) (by omega)) ?_
    rw [n_cl (p := P) (by omega)]
    refine Tm_suc (fun k => by rw [x_makePoint]) ?_
    refine Tm_suc (fun k => by rw [x_makePoint]) ?_
    refine Tm_some ⟨rfl, ?_⟩
    show Mpt P τ (mSc (mSc (mAr ρ 32 P (ρ.1 64)) 65 (ρ.1 65 + ρ.1 64)) 63 (ρ.1 63 + 1))
    rw [h1, hP, n_add1]
    refine ⟨fun j a b => ?_, h2, fun a x y => (mAr_o y).trans (h3 a x), fun j hj => ?_, fun j hj => ?_, fun j hj => ?_, ?_, ?_, rfl⟩
    · show upd (upd ρ.1 65 _) 63 _ j = _
      rw [upd_other a, upd_other b, h1]
    · show (mAr ρ 32 P _).2.2 31 _ = _
      rw [mAr_o (by decide)]; exact h4 j hj
    · show (mAr ρ 32 P _).2.2 31 _ = _
      rw [mAr_o (by decide)]; exact h5 j hj
    · show (mAr ρ 32 P _).2.2 32 j = _
      rw [mAr_s, upd_other hj, h3 32 (by decide)]
    · show (mAr ρ 32 P _).2.2 32 P = _
      rw [mAr_s, upd_same]
    · rfl
  | succ d ih =>
    intro i ρ N hd hC n2
    obtain ⟨h1, h2, h3, h4, h5⟩ := id hC
    refine Tm_suc (fun k => by rw [x_makePoint]) ?_
    rw [n2]
    refine Tm_ite (fun z => ?_) (fun _ => ?_)
    · have := (n_le (p := 11514) (by decide) (by omega)).mp z
      omega
    refine Tm_chk (n_in (by omega) (by omega)) ?_
    rw [show ρ.1 63 = nI P from by rw [h1]; exact hP, show (11514 : Int32) * nI P = nI (11514 * P) from n_mulN 11514 P, n_add (p := 11514 * P) (by omega)]
    refine Tm_chk (n_in (by omega) (by omega)) ?_
    rw [n_cl (p := i) (by omega), n_cl (p := 11514 * P + i) (by omega), h3 30 (by decide)]
    refine Tm_suc (fun k => by rw [x_makePoint]) ?_
    rw [n2, n_add1]
    exact ih (i + 1) (mAr ρ 31 (11514 * P + i) (τ.2.2 30 i)) _ (by omega) (Cp_1 hC) rfl
/-- the totals with a point more -/
theorem UT_mp (hU : UT τ) (hP : τ.1 63 = nI P) (h20 : P < 20) (hM : Mpt P τ ρ) (hle : StS τ + suN (PtS τ) P + StS τ ≤ 40000) {qi : Nat} (hq : τ.2.2 30 3 = nI qi) (hqi : qi ≤ 3100) (hIt : ItS τ qi) : UT ρ := by
  obtain ⟨a1, a2, a3, a4, a5, a6, a7, a8, a9⟩ := hM
  obtain ⟨h64, P', h63, hP', h65, h32, hl, o1, o2, o3, o4, o5⟩ := hU
  have eP : P' = P := (n_eq (by omega) (by omega)).mp (h63.symm.trans hP)
  subst eP
  have r28 := a3 28 (by decide) (by decide)
  have r20 : kC ρ = kC τ := kC_r (a3 20 (by decide) (by decide)) (a3 21 (by decide) (by decide)) (a1 30 (by decide) (by decide))
  have r30 := a3 30 (by decide) (by decide)
  have r33 := a3 33 (by decide) (by decide)
  have sS : StS ρ = StS τ := by unfold StS; rw [r28, r20, r30]
  have blk : ∀ p, p < P' → ∀ j, j < 11514 → ρ.2.2 31 (11514 * p + j) = τ.2.2 31 (11514 * p + j) := fun p hp j hj => a5 _ (by omega)
  have sP : ∀ p, p < P' → PtS ρ p = PtS τ p := fun p hp => by
    unfold PtS SzS
    rw [r28, r20]
    exact suN_c (fun i hi => (szP_c (blk p hp 1 (by omega)) (blk p hp 3 (by omega)) (fun j h1 h2 => blk p hp j (by omega)) (fun _ => by rw [blk p hp i hi])).2)
  have sN : PtS ρ P' = StS τ := by
    unfold PtS StS SzS
    rw [r28, r20]
    refine suN_c (fun i hi => (szP_c (b := 0) ?_ ?_ (fun j h1 h2 => ?_) (fun _ => ?_)).2)
    · rw [a4 1 (by omega)]
    · rw [a4 3 (by omega)]
    · rw [a4 j (by omega), Nat.zero_add]
    · rw [a4 i hi, Nat.zero_add]
  have sum : suN (PtS ρ) (P' + 1) = suN (PtS τ) P' + StS τ := by
    show suN (PtS ρ) P' + PtS ρ P' = _
    rw [suN_c sP, sN]
  have stB : ∀ i, StI (ρ.2.2 31) (11514 * P') (11514 * P' + i) → StI (τ.2.2 30) 0 i ∧ i < 11514 ∨ 11514 ≤ i := fun i h => by
    by_cases c : i < 11514
    · refine Or.inl ⟨?_, c⟩
      unfold StI at h ⊢
      rw [a4 1 (by omega), a4 3 (by omega)] at h
      rw [show (0 + 1) = 1 from rfl, show (0 + 3) = 3 from rfl]
      omega
    · exact Or.inr (by omega)
  refine ⟨by rw [a1 64 (by decide) (by decide), sS]; exact h64, P' + 1, a9, by omega, ?_, fun p hp => ?_, ?_, ?_, fun p hp i c n => ?_, ?_, ?_, fun p hp => ?_⟩
  · rw [a8, h65, h64, n_add (by omega), sum]
  · by_cases e : p = P'
    · rw [e, a7, sN]; exact h64
    · rw [a6 p e, sP p (by omega)]; exact h32 p (by omega)
  · rw [sS, sum]; omega
  · rw [r20, r30]; exact o1
  · rw [r20] at n
    by_cases e : p = P'
    · subst e
      rcases stB i c with ⟨c1, c2⟩ | c2
      · rw [a4 i c2]
        refine o1 i c1 ?_
        unfold NUa at n ⊢
        rw [Nat.zero_add]
        by_cases y : 214 ≤ i ∧ i < 3214
        · rw [a4 (65 + 3 * ((i - 214) / 60)) (by omega)] at n; exact n
        · rcases n with z | z
          · exact Or.inl z
          · exact absurd ⟨z.1, z.2.1⟩ y
      · exfalso
        rcases n with z | z <;> omega
    · have hp' : p < P' := by omega
      by_cases ci : i < 11514
      · have c' : StI (τ.2.2 31) (11514 * p) (11514 * p + i) := (StI_c (blk p hp' 1 (by omega)) (blk p hp' 3 (by omega))).mp c
        have n' : NUa (kC τ) (τ.2.2 31) (11514 * p) i := (NUa_c (fun j h1 h2 => blk p hp' j (by omega))).mp n
        rw [blk p hp' i ci]; exact o2 p hp' i c' n'
      · exfalso
        rcases n with z | z <;> omega
  · rw [r33]; exact o3
  · rw [r30]; exact o4
  · by_cases e : p = P'
    · subst e
      refine ⟨CWa_c o4 (by rw [a4 1 (by omega)]) (fun j h1 h2 => by rw [a4 j (by omega), Nat.zero_add]), qi, (a4 3 (by omega)).trans hq, hqi, fun i hi => ?_⟩
      have e : szV ρ 31 (11514 * p + (5314 + i)) = szV τ 30 (5314 + i) := by unfold szV; rw [r28, a4 (5314 + i) (by omega)]
      rw [e, a4 (8414 + i) (by omega)]; exact hIt i hi
    · exact ⟨CWa_c (o5 p (by omega)).1 (blk p (by omega) 1 (by omega)) (fun j h1 h2 => blk p (by omega) j (by omega)), ItP_c r28 (fun j hj => blk p (by omega) j hj) (o5 p (by omega)).2⟩
/-- both make a point -/
theorem EI_mp (hE : EI t w XC τ1 τ2) (hP : τ1.1 63 = nI P) (h20 : P < 20) (m1 : Mpt P τ1 ρ1) (m2 : Mpt P τ2 ρ2) : EI t w XC ρ1 ρ2 := by
  have hE0 := hE
  obtain ⟨g1, l1, B1, h1, X1, g2, l2, B2, h2, X2, n1, n2, hR, _, _, t1, _⟩ := hE0
  obtain ⟨a1, a2, a3, a4, a5, a6, a7, a8, a9⟩ := m1
  obtain ⟨b1, b2, b3, b4, b5, b6, b7, b8, b9⟩ := m2
  have al : ∀ j, AlS j → τ1.1 j = τ2.1 j := hR.2.2.1
  have spl : ∀ j, (11514 * P ≤ j ∧ j < 11514 * P + 11514) → ∃ i, i < 11514 ∧ j = 11514 * P + i := fun j h => ⟨j - 11514 * P, by omega, by omega⟩
  refine EI_mv hE (fun j hj => a1 j (by omega) (by omega)) (fun j hj => b1 j (by omega) (by omega)) a2 b2 (fun a _ _ h31 h32 _ => a3 a h31 h32) (fun a _ _ h31 h32 _ => b3 a h31 h32) ((a1 59 (by decide) (by decide)).trans t1) ?_ (fun j hj hn => ?_) (fun j hj hn => ?_) (fun j hn => ?_) (fun j hj => ?_) (fun a j ha z => ?_)
  · obtain ⟨P', e, y1, y2, y3, y4, ⟨c, n, z1, z2, z3, z4⟩, y6⟩ := n1.2.1
    have eP : P' = P := (n_eq (by omega) (by omega)).mp (y1.symm.trans hP)
    subst eP
    refine ⟨P' + 1, e, a9, by omega, (a1 72 (by decide) (by decide)).trans y3, y4, ⟨c, n, by rw [a3 30 (by decide) (by decide)]; exact z1, z2, by rw [a3 30 (by decide) (by decide)]; exact z3, z4⟩, fun p hp => ?_⟩
    by_cases ep : p = P'
    · subst ep
      exact ⟨c, n, (a4 1 (by omega)).trans z1, z2, (a4 3 (by omega)).trans z3, z4⟩
    · obtain ⟨c, n, z1, z2, z3, z4⟩ := y6 p (by omega)
      exact ⟨c, n, (a5 _ (by omega)).trans z1, z2, (a5 _ (by omega)).trans z3, z4⟩
  · rw [a3 30 (by decide) (by decide), b3 30 (by decide) (by decide)]; exact hR.2.1 30 j (by unfold AlR; omega) hj (fun y => hn (InA_n30 (fun k _ => by rw [a3 30 (by decide) (by decide)]; exact Nat.le_refl _) y))
  · by_cases c : 11514 * P ≤ j ∧ j < 11514 * P + 11514
    · obtain ⟨i, hi, ej⟩ := spl j c
      rw [ej, a4 i hi, b4 i hi]
      refine hR.2.1 30 i (by unfold AlR; omega) (fun z => hj ?_) (fun y => hn ?_)
      · rw [ej]; unfold Zn at z ⊢; omega
      · rw [ej]
        unfold InA at y ⊢
        rcases y with y | y
        · refine Or.inr (Or.inl ⟨rfl, Or.inr ?_⟩)
          have y := y.2
          unfold IaN at y ⊢
          rw [show (11514 * P + i) / 11514 = P by omega, show (11514 * P + i) % 11514 = i by omega, a4 1 (by omega), a4 2 (by omega), a4 3 (by omega)]
          rw [Nat.zero_add, Nat.zero_add, Nat.zero_add] at y
          exact y
        · omega
    · rw [a5 j c, b5 j c]
      refine hR.2.1 31 j (by unfold AlR; omega) hj (fun y => hn ?_)
      unfold InA at y ⊢
      rw [a9, n_cl (p := P + 1) (by omega)]
      rw [hP, n_cl (p := P) (by omega)] at y
      rcases y with y | y | y
      · omega
      · refine Or.inr (Or.inl ⟨rfl, ?_⟩)
        rcases y.2 with y | y
        · exact Or.inl (by omega)
        · by_cases c2 : j / 11514 < P
          · refine Or.inr ?_
            unfold IaN at y ⊢
            rw [a5 _ (by omega), a5 _ (by omega), a5 _ (by omega)]
            exact y
          · exact Or.inl (by omega)
      · omega
  · by_cases e : j = P
    · rw [e, a7, b7]; exact al 64 (by unfold AlS; omega)
    · rw [a6 j e, b6 j e]; 
      refine hR.2.1 32 j (by unfold AlR; omega) (by unfold Zn; omega) (fun y => hn ?_)
      unfold InA at y ⊢
      rw [a9, n_cl (p := P + 1) (by omega)]
      rw [hP, n_cl (p := P) (by omega)] at y
      omega
  · by_cases e3 : j = 63
    · rw [e3, a9, b9]
    · by_cases e5 : j = 65
      · rw [e5, a8, b8, al 65 (by unfold AlS; omega), al 64 (by unfold AlS; omega)]
      · rw [a1 j e3 e5, b1 j e3 e5]; exact al j hj
  · have old : ∀ a j, a ≠ 31 → a ≠ 32 → RtP t τ1 a j → a = 29 ∨ a = 30 ∨ a = 33 → (∃ a' i', ¬ VwR a' ∧ RtP t τ1 a' i' ∧ ρ1.2.2 a j = τ1.2.2 a' i' ∧ ρ2.2.2 a j = τ2.2.2 a' i') := fun a j h31 h32 hr ha => ⟨a, j, by unfold VwR; omega, hr, by rw [a3 a h31 h32], by rw [b3 a h31 h32]⟩
    rcases z with z | ⟨z, y⟩ | ⟨z, p, hp, y⟩ | z | z
    · exact Or.inl (old a j (by omega) (by omega) (Or.inl z) (by omega))
    · rw [a3 30 (by decide) (by decide)] at y
      exact Or.inl (old a j (by omega) (by omega) (Or.inr (Or.inl ⟨z, y⟩)) (by omega))
    · subst z
      rw [a9, n_cl (p := P + 1) (by omega)] at hp
      obtain ⟨P', e, y1, y2, y3, y4, ⟨c, n, z1, z2, z3, z4⟩, y6⟩ := n1.2.1
      have eP : P' = P := (n_eq (by omega) (by omega)).mp (y1.symm.trans hP)
      subst eP
      by_cases ep : p = P'
      · subst ep
        unfold StI at y
        rw [a4 1 (by omega), a4 3 (by omega), z1, z3, n_cl (p := c) (by omega), n_cl (p := n) (by omega)] at y
        obtain ⟨i, hi, ej⟩ := spl j (by omega)
        refine Or.inl ⟨30, i, by unfold VwR; omega, Or.inr (Or.inl ⟨rfl, ?_⟩), by rw [ej, a4 i hi], by rw [ej, b4 i hi]⟩
        unfold StI
        rw [show (0 + 1) = 1 from rfl, show (0 + 3) = 3 from rfl, z1, z3, n_cl (p := c) (by omega), n_cl (p := n) (by omega)]
        omega
      · have hp' : p < P' := by omega
        obtain ⟨c, n, q1, q2, q3, q4⟩ := y6 p hp'
        have e1 : ρ1.2.2 31 (11514 * p + 1) = τ1.2.2 31 (11514 * p + 1) := a5 _ (by omega)
        have e3 : ρ1.2.2 31 (11514 * p + 3) = τ1.2.2 31 (11514 * p + 3) := a5 _ (by omega)
        have y' : StI (τ1.2.2 31) (11514 * p) j := (StI_c e1 e3).mp y
        have nj : ¬ (11514 * P' ≤ j ∧ j < 11514 * P' + 11514) := by
          unfold StI at y'
          rw [q1, q3, n_cl (p := c) (by omega), n_cl (p := n) (by omega)] at y'
          omega
        refine Or.inl ⟨31, j, by unfold VwR; omega, Or.inr (Or.inr (Or.inl ⟨rfl, p, ?_, y'⟩)), a5 j nj, b5 j nj⟩
        rw [hP, n_cl (p := P') (by omega)]; exact hp'
    · exact Or.inl (old a j (by omega) (by omega) (Or.inr (Or.inr (Or.inr (Or.inl z)))) (by omega))
    · have : a = 34 ∨ a = 36 ∨ a = 37 ∨ a = 38 ∨ a = 40 := by omega
      omega
end MKP
