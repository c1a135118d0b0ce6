section JnS252
/-! Statements on both sides (reference): a point is made. -/
/-- the state is copied, up to i -/
def CpT (P i : Nat) (τ ρ : MS) : Prop := ρ.1 = τ.1 ∧ ρ.2.1 = τ.2.1 ∧ (∀ a, a ≠ 31 → ρ.2.2 a = τ.2.2 a) ∧ (∀ j, j < i → ρ.2.2 31 (11514 * P + j) = τ.2.2 30 j) ∧ ∀ j, ¬ (11514 * P ≤ j ∧ j < 11514 * P + i) → ρ.2.2 31 j = τ.2.2 31 j
theorem Cp_1 {P i : Nat} {τ ρ : MS} (h : CpT P i τ ρ) : CpT P (i + 1) τ (mAr ρ 31 (11514 * P + i) (τ.2.2 30 i)) := by
  obtain ⟨h1, h2, h3, h4, h5⟩ := h
  refine ⟨h1, h2, fun a ha => (mAr_o ha).trans (h3 a ha), fun j hj => ?_, fun j hj => ?_⟩
  · rw [mAr_s]
    by_cases e : j = i
    · rw [e, upd_same]
    · rw [upd_other (by omega)]; exact h4 j (by omega)
  · rw [mAr_s, upd_other (by omega)]; exact h5 j (by omega)
/-- what a point leaves -/
def Mpt (P : Nat) (τ ρ : MS) : Prop := (∀ j, j ≠ 63 → j ≠ 65 → ρ.1 j = τ.1 j) ∧ ρ.2.1 = τ.2.1 ∧ (∀ a, a ≠ 31 → a ≠ 32 → ρ.2.2 a = τ.2.2 a) ∧ (∀ j, j < 11514 → ρ.2.2 31 (11514 * P + j) = τ.2.2 30 j) ∧ (∀ j, ¬ (11514 * P ≤ j ∧ j < 11514 * P + 11514) → ρ.2.2 31 j = τ.2.2 31 j) ∧ (∀ j, j ≠ P → ρ.2.2 32 j = τ.2.2 32 j) ∧ ρ.2.2 32 P = τ.1 64 ∧ ρ.1 65 = τ.1 65 + τ.1 64 ∧ ρ.1 63 = nI (P + 1)
section MKP
variable {P t w XC : Nat} {τ ρ τ1 τ2 ρ1 ρ2 : MS}
theorem s_copy (hP : τ.1 63 = nI P) (h20 : P < 20) : ∀ (d i : Nat) (ρ : MS) (N : Nat → Int32), d + i = 11514 → CpT P i τ ρ → N 2 = nI i → Tm (fun k => x_makePoint k 4 N ρ) (fun r => r.1 = 0 ∧ Mpt P τ r.2) := by
  intro d
  induction d with
  | zero =>
    intro i ρ N hd hC n2
    have ei : i = 11514 := by omega
    subst ei
    obtain ⟨h1, h2, h3, h4, h5⟩ := hC
    refine Tm_suc (fun k => by rw [x_makePoint]) ?_
    rw [n2]
    refine Tm_ite (fun _ => ?_) (fun z => absurd ((n_le (p := 11514) (q := 11514) (by decide) (by decide)).mpr (Nat.le_refl _)) z)
    refine Tm_suc (fun k => by rw [x_makePoint]) ?_
    rw [show ρ.1 63 = nI P from by rw [h1]; exact hP]
    refine Tm_chk (n_in (by omega) (by omega)) ?_
    rw [n_cl (p := P) (by omega)]
    refine Tm_suc (fun k => by rw [x_makePoint]) ?_
    refine Tm_suc (fun k => by rw [x_makePoint]) ?_
    refine Tm_some ⟨rfl, ?_⟩
    show Mpt P τ (mSc (mSc (mAr ρ 32 P (ρ.1 64)) 65 (ρ.1 65 + ρ.1 64)) 63 (ρ.1 63 + 1))
    rw [h1, hP, n_add1]
    refine ⟨fun j a b => ?_, h2, fun a x y => (mAr_o y).trans (h3 a x), fun j hj => ?_, fun j hj => ?_, fun j hj => ?_, ?_, ?_, rfl⟩
    · show upd (upd ρ.1 65 _) 63 _ j = _
      rw [upd_other a, upd_other b, h1]
    · show (mAr ρ 32 P _).2.2 31 _ = _
      rw [mAr_o (by decide)]; exact h4 j hj
    · show (mAr ρ 32 P _).2.2 31 _ = _
      rw [mAr_o (by decide)]; exact h5 j hj
    · show (mAr ρ 32 P _).2.2 32 j = _
      rw [mAr_s, upd_other hj, h3 32 (by decide)]
    · show (mAr ρ 32 P _).2.2 32 P = _
      rw [mAr_s, upd_same]
    · rfl
  | succ d ih =>
    intro i ρ N hd hC n2
    obtain ⟨h1, h2, h3, h4, h5⟩ := id hC
    refine Tm_suc (fun k => by rw [x_makePoint]) ?_
    rw [n2]
    refine Tm_ite (fun z => ?_) (fun _ => ?_)
    · have := (n_le (p := 11514) (by decide) (by omega)).mp z
      omega
    refine Tm_chk (n_in (by omega) (by omega)) ?_
    rw [show ρ.1 63 = nI P from by rw [h1]; exact hP, show (11514 : Int32) * nI P = nI (11514 * P) from n_mulN 11514 P, n_add (p := 11514 * P) (by omega)]
    refine Tm_chk (n_in (by omega) (by omega)) ?_
    rw [n_cl (p := i) (by omega), n_cl (p := 11514 * P + i) (by omega), h3 30 (by decide)]
    refine Tm_suc (fun k => by rw [x_makePoint]) ?_
    rw [n2, n_add1]
    exact ih (i + 1) (mAr ρ 31 (11514 * P + i) (τ.2.2 30 i)) _ (by omega) (Cp_1 hC) rfl
/-- the totals with a point more -/
theorem UT_mp (hU : UT τ) (hP : τ.1 63 = nI P) (h20 : P < 20) (hM : Mpt P τ ρ) (hle : StS τ + suN (PtS τ) P + StS τ ≤ 40000) {qi : Nat} (hq : τ.2.2 30 3 = nI qi) (hqi : qi ≤ 3100) (hIt : ItS τ qi) : UT ρ := by
  obtain ⟨a1, a2, a3, a4, a5, a6, a7, a8, a9⟩ := hM
  obtain ⟨h64, P', h63, hP', h65, h32, hl, o1, o2, o3, o4, o5⟩ := hU
  have eP : P' = P := (n_eq (by omega) (by omega)).mp (h63.symm.trans hP)
  subst eP
  have r28 := a3 28 (by decide) (by decide)
  have r20 : kC ρ = kC τ := kC_r (a3 20 (by decide) (by decide)) (a3 21 (by decide) (by decide)) (a1 30 (by decide) (by decide))
  have r30 := a3 30 (by decide) (by decide)
  have r33 := a3 33 (by decide) (by decide)
  have sS : StS ρ = StS τ := by unfold StS; rw [r28, r20, r30]
  have blk : ∀ p, p < P' → ∀ j, j < 11514 → ρ.2.2 31 (11514 * p + j) = τ.2.2 31 (11514 * p + j) := fun p hp j hj => a5 _ (by omega)
  have sP : ∀ p, p < P' → PtS ρ p = PtS τ p := fun p hp => by
    unfold PtS SzS
    rw [r28, r20]
    exact suN_c (fun i hi => (szP_c (blk p hp 1 (by omega)) (blk p hp 3 (by omega)) (fun j h1 h2 => blk p hp j (by omega)) (fun _ => by rw [blk p hp i hi])).2)
  have sN : PtS ρ P' = StS τ := by
    unfold PtS StS SzS
    rw [r28, r20]
    refine suN_c (fun i hi => (szP_c (b := 0) ?_ ?_ (fun j h1 h2 => ?_) (fun _ => ?_)).2)
    · rw [a4 1 (by omega)]
    · rw [a4 3 (by omega)]
    · rw [a4 j (by omega), Nat.zero_add]
    · rw [a4 i hi, Nat.zero_add]
  have sum : suN (PtS ρ) (P' + 1) = suN (PtS τ) P' + StS τ := by
    show suN (PtS ρ) P' + PtS ρ P' = _
    rw [suN_c sP, sN]
  have stB : ∀ i, StI (ρ.2.2 31) (11514 * P') (11514 * P' + i) → StI (τ.2.2 30) 0 i ∧ i < 11514 ∨ 11514 ≤ i := fun i h => by
    by_cases c : i < 11514
    · refine Or.inl ⟨?_, c⟩
      unfold StI at h ⊢
      rw [a4 1 (by omega), a4 3 (by omega)] at h
      rw [show (0 + 1) = 1 from rfl, show (0 + 3) = 3 from rfl]
      omega
    · exact Or.inr (by omega)
  refine ⟨by rw [a1 64 (by decide) (by decide), sS]; exact h64, P' + 1, a9, by omega, ?_, fun p hp => ?_, ?_, ?_, fun p hp i c n => ?_, ?_, ?_, fun p hp => ?_⟩
  · rw [a8, h65, h64, n_add (by omega), sum]
  · by_cases e : p = P'
    · rw [e, a7, sN]; exact h64
    · rw [a6 p e, sP p (by omega)]; exact h32 p (by omega)
  · rw [sS, sum]; omega
  · rw [r20, r30]; exact o1
  · rw [r20] at n
    by_cases e : p = P'
    · subst e
      rcases stB i c with ⟨c1, c2⟩ | c2
      · rw [a4 i c2]
        refine o1 i c1 ?_
        unfold NUa at n ⊢
        rw [Nat.zero_add]
        by_cases y : 214 ≤ i ∧ i < 3214
        · rw [a4 (65 + 3 * ((i - 214) / 60)) (by omega)] at n; exact n
        · rcases n with z | z
          · exact Or.inl z
          · exact absurd ⟨z.1, z.2.1⟩ y
      · exfalso
        rcases n with z | z <;> omega
    · have hp' : p < P' := by omega
      by_cases ci : i < 11514
      · have c' : StI (τ.2.2 31) (11514 * p) (11514 * p + i) := (StI_c (blk p hp' 1 (by omega)) (blk p hp' 3 (by omega))).mp c
        have n' : NUa (kC τ) (τ.2.2 31) (11514 * p) i := (NUa_c (fun j h1 h2 => blk p hp' j (by omega))).mp n
        rw [blk p hp' i ci]; exact o2 p hp' i c' n'
      · exfalso
        rcases n with z | z <;> omega
  · rw [r33]; exact o3
  · rw [r30]; exact o4
  · by_cases e : p = P'
    · subst e
      refine ⟨CWa_c o4 (by rw [a4 1 (by omega)]) (fun j h1 h2 => by rw [a4 j (by omega), Nat.zero_add]), qi, (a4 3 (by omega)).trans hq, hqi, fun i hi => ?_⟩
      have e : szV ρ 31 (11514 * p + (5314 + i)) = szV τ 30 (5314 + i) := by unfold szV; rw [r28, a4 (5314 + i) (by omega)]
      rw [e, a4 (8414 + i) (by omega)]; exact hIt i hi
    · exact ⟨CWa_c (o5 p (by omega)).1 (blk p (by omega) 1 (by omega)) (fun j h1 h2 => blk p (by omega) j (by omega)), ItP_c r28 (fun j hj => blk p (by omega) j hj) (o5 p (by omega)).2⟩
/-- both make a point -/
theorem EI_mp (hE : EI t w XC τ1 τ2) (hP : τ1.1 63 = nI P) (h20 : P < 20) (m1 : Mpt P τ1 ρ1) (m2 : Mpt P τ2 ρ2) : EI t w XC ρ1 ρ2 := by
  have hE0 := hE
  obtain ⟨g1, l1, B1, h1, X1, g2, l2, B2, h2, X2, n1, n2, hR, _, _, t1, _⟩ := hE0
  obtain ⟨a1, a2, a3, a4, a5, a6, a7, a8, a9⟩ := m1
  obtain ⟨b1, b2, b3, b4, b5, b6, b7, b8, b9⟩ := m2
  have al : ∀ j, AlS j → τ1.1 j = τ2.1 j := hR.2.2.1
  have spl : ∀ j, (11514 * P ≤ j ∧ j < 11514 * P + 11514) → ∃ i, i < 11514 ∧ j = 11514 * P + i := fun j h => ⟨j - 11514 * P, by omega, by omega⟩
  refine EI_mv hE (fun j hj => a1 j (by omega) (by omega)) (fun j hj => b1 j (by omega) (by omega)) a2 b2 (fun a _ _ h31 h32 _ => a3 a h31 h32) (fun a _ _ h31 h32 _ => b3 a h31 h32) ((a1 59 (by decide) (by decide)).trans t1) ?_ (fun j hj hn => ?_) (fun j hj hn => ?_) (fun j hn => ?_) (fun j hj => ?_) (fun a j ha z => ?_)
  · obtain ⟨P', e, y1, y2, y3, y4, ⟨c, n, z1, z2, z3, z4⟩, y6⟩ := n1.2.1
    have eP : P' = P := (n_eq (by omega) (by omega)).mp (y1.symm.trans hP)
    subst eP
    refine ⟨P' + 1, e, a9, by omega, (a1 72 (by decide) (by decide)).trans y3, y4, ⟨c, n, by rw [a3 30 (by decide) (by decide)]; exact z1, z2, by rw [a3 30 (by decide) (by decide)]; exact z3, z4⟩, fun p hp => ?_⟩
    by_cases ep : p = P'
    · subst ep
      exact ⟨c, n, (a4 1 (by omega)).trans z1, z2, (a4 3 (by omega)).trans z3, z4⟩
    · obtain ⟨c, n, z1, z2, z3, z4⟩ := y6 p (by omega)
      exact ⟨c, n, (a5 _ (by omega)).trans z1, z2, (a5 _ (by omega)).trans z3, z4⟩
  · rw [a3 30 (by decide) (by decide), b3 30 (by decide) (by decide)]; exact hR.2.1 30 j (by unfold AlR; omega) hj (fun y => hn (InA_n30 (fun k _ => by rw [a3 30 (by decide) (by decide)]; exact Nat.le_refl _) y))
  · by_cases c : 11514 * P ≤ j ∧ j < 11514 * P + 11514
    · obtain ⟨i, hi, ej⟩ := spl j c
      rw [ej, a4 i hi, b4 i hi]
      refine hR.2.1 30 i (by unfold AlR; omega) (fun z => hj ?_) (fun y => hn ?_)
      · rw [ej]; unfold Zn at z ⊢; omega
      · rw [ej]
        unfold InA at y ⊢
        rcases y with y | y
        · refine Or.inr (Or.inl ⟨rfl, Or.inr ?_⟩)
          have y := y.2
          unfold IaN at y ⊢
          rw [show (11514 * P + i) / 11514 = P by omega, show (11514 * P + i) % 11514 = i by omega, a4 1 (by omega), a4 2 (by omega), a4 3 (by omega)]
          rw [Nat.zero_add, Nat.zero_add, Nat.zero_add] at y
          exact y
        · omega
    · rw [a5 j c, b5 j c]
      refine hR.2.1 31 j (by unfold AlR; omega) hj (fun y => hn ?_)
      unfold InA at y ⊢
      rw [a9, n_cl (p := P + 1) (by omega)]
      rw [hP, n_cl (p := P) (by omega)] at y
      rcases y with y | y | y
      · omega
      · refine Or.inr (Or.inl ⟨rfl, ?_⟩)
        rcases y.2 with y | y
        · exact Or.inl (by omega)
        · by_cases c2 : j / 11514 < P
          · refine Or.inr ?_
            unfold IaN at y ⊢
            rw [a5 _ (by omega), a5 _ (by omega), a5 _ (by omega)]
            exact y
          · exact Or.inl (by omega)
      · omega
  · by_cases e : j = P
    · rw [e, a7, b7]; exact al 64 (by unfold AlS; omega)
    · rw [a6 j e, b6 j e]; 
      refine hR.2.1 32 j (by unfold AlR; omega) (by unfold Zn; omega) (fun y => hn ?_)
      unfold InA at y ⊢
      rw [a9, n_cl (p := P + 1) (by omega)]
      rw [hP, n_cl (p := P) (by omega)] at y
      omega
  · by_cases e3 : j = 63
    · rw [e3, a9, b9]
    · by_cases e5 : j = 65
      · rw [e5, a8, b8, al 65 (by unfold AlS; omega), al 64 (by unfold AlS; omega)]
      · rw [a1 j e3 e5, b1 j e3 e5]; exact al j hj
  · have old : ∀ a j, a ≠ 31 → a ≠ 32 → RtP t τ1 a j → a = 29 ∨ a = 30 ∨ a = 33 → (∃ a' i', ¬ VwR a' ∧ RtP t τ1 a' i' ∧ ρ1.2.2 a j = τ1.2.2 a' i' ∧ ρ2.2.2 a j = τ2.2.2 a' i') := fun a j h31 h32 hr ha => ⟨a, j, by unfold VwR; omega, hr, by rw [a3 a h31 h32], by rw [b3 a h31 h32]⟩
    rcases z with z | ⟨z, y⟩ | ⟨z, p, hp, y⟩ | z | z
    · exact Or.inl (old a j (by omega) (by omega) (Or.inl z) (by omega))
    · rw [a3 30 (by decide) (by decide)] at y
      exact Or.inl (old a j (by omega) (by omega) (Or.inr (Or.inl ⟨z, y⟩)) (by omega))
    · subst z
      rw [a9, n_cl (p := P + 1) (by omega)] at hp
      obtain ⟨P', e, y1, y2, y3, y4, ⟨c, n, z1, z2, z3, z4⟩, y6⟩ := n1.2.1
      have eP : P' = P := (n_eq (by omega) (by omega)).mp (y1.symm.trans hP)
      subst eP
      by_cases ep : p = P'
      · subst ep
        unfold StI at y
        rw [a4 1 (by omega), a4 3 (by omega), z1, z3, n_cl (p := c) (by omega), n_cl (p := n) (by omega)] at y
        obtain ⟨i, hi, ej⟩ := spl j (by omega)
        refine Or.inl ⟨30, i, by unfold VwR; omega, Or.inr (Or.inl ⟨rfl, ?_⟩), by rw [ej, a4 i hi], by rw [ej, b4 i hi]⟩
        unfold StI
        rw [show (0 + 1) = 1 from rfl, show (0 + 3) = 3 from rfl, z1, z3, n_cl (p := c) (by omega), n_cl (p := n) (by omega)]
        omega
      · have hp' : p < P' := by omega
        obtain ⟨c, n, q1, q2, q3, q4⟩ := y6 p hp'
        have e1 : ρ1.2.2 31 (11514 * p + 1) = τ1.2.2 31 (11514 * p + 1) := a5 _ (by omega)
        have e3 : ρ1.2.2 31 (11514 * p + 3) = τ1.2.2 31 (11514 * p + 3) := a5 _ (by omega)
        have y' : StI (τ1.2.2 31) (11514 * p) j := (StI_c e1 e3).mp y
        have nj : ¬ (11514 * P' ≤ j ∧ j < 11514 * P' + 11514) := by
          unfold StI at y'
          rw [q1, q3, n_cl (p := c) (by omega), n_cl (p := n) (by omega)] at y'
          omega
        refine Or.inl ⟨31, j, by unfold VwR; omega, Or.inr (Or.inr (Or.inl ⟨rfl, p, ?_, y'⟩)), a5 j nj, b5 j nj⟩
        rw [hP, n_cl (p := P') (by omega)]; exact hp'
    · exact Or.inl (old a j (by omega) (by omega) (Or.inr (Or.inr (Or.inr (Or.inl z)))) (by omega))
    · have : a = 34 ∨ a = 36 ∨ a = 37 ∨ a = 38 ∨ a = 40 := by omega
      omega
end MKP
end JnS252
section JnS253
/-! The closing of a for doesn't look at the top (reference). -/
/-- the answer with another top -/
def o59 (x : Int32) (r : Option (Int32 × MS)) : Option (Int32 × MS) := r.map (fun q => (q.1, mSc q.2 59 x))
section O59
variable {x : Int32}
theorem o59_if {c : Prop} {d : Decidable c} {a a' b b' : Option (Int32 × MS)} (h1 : a' = o59 x a) (h2 : b' = o59 x b) : (if c then a' else b') = o59 x (if c then a else b) := by
  by_cases h : c
  · rw [if_pos h, if_pos h]; exact h1
  · rw [if_neg h, if_neg h]; exact h2
theorem o59_ob {A A' : Option (Int32 × MS)} {F F' : Int32 × MS → Option (Int32 × MS)} (h1 : A' = o59 x A) (h2 : ∀ r : Int32 × MS, F' (r.1, mSc r.2 59 x) = o59 x (F r)) : ob A' F' = o59 x (ob A F) := by
  rw [h1]
  cases A with
  | none => rfl
  | some r => exact h2 r
theorem c59_size : ∀ (k b : Nat) (L : Nat → Int32) (σ : MS), x_size k b L (mSc σ 59 x) = o59 x (x_size k b L σ) := by
  intro k
  induction k with
  | zero => intro b L σ; rw [x_size, x_size]; rfl
  | succ k ih =>
    intro b L σ
    match b with
    | 0 => rw [x_size, x_size]; exact o59_if (ih 1 L σ) (ih 2 _ σ)
    | 1 => rw [x_size, x_size]; exact o59_if (ih 2 _ σ) rfl
    | 2 => rw [x_size, x_size]; rfl
    | b + 3 => rw [x_size, x_size]; rfl
theorem c59_valueOf : ∀ (k b : Nat) (L : Nat → Int32) (σ : MS), x_valueOf k b L (mSc σ 59 x) = o59 x (x_valueOf k b L σ) := by
  intro k
  induction k with
  | zero => intro b L σ; rw [x_valueOf, x_valueOf]; rfl
  | succ k ih =>
    intro b L σ
    match b with
    | 0 => rw [x_valueOf, x_valueOf]; exact o59_if (o59_if (o59_if (o59_if rfl rfl) rfl) (ih 1 L σ)) rfl
    | 1 => rw [x_valueOf, x_valueOf]; exact o59_if (ih 2 L σ) (o59_if (o59_if (ih 3 _ σ) rfl) rfl)
    | 2 => rw [x_valueOf, x_valueOf]; exact o59_if (o59_if (o59_if (ih 3 _ σ) rfl) rfl) rfl
    | 3 => rw [x_valueOf, x_valueOf]; rfl
    | b + 4 => rw [x_valueOf, x_valueOf]; rfl
theorem c59_bindOne : ∀ (k b : Nat) (L : Nat → Int32) (σ : MS), x_bindOne k b L (mSc σ 59 x) = o59 x (x_bindOne k b L σ) := by
  intro k
  induction k with
  | zero => intro b L σ; rw [x_bindOne, x_bindOne]; rfl
  | succ k ih =>
    intro b L σ
    match b with
    | 0 => rw [x_bindOne, x_bindOne]; exact o59_if (o59_if (o59_if (o59_if (ih 3 L (mAr σ 30 _ _)) rfl) rfl) (ih 1 L σ)) rfl
    | 1 => rw [x_bindOne, x_bindOne]; exact o59_if (ih 2 L σ) (o59_if (o59_if (ih 3 L (mAr σ 33 _ _)) rfl) rfl)
    | 2 => rw [x_bindOne, x_bindOne]; exact o59_if (o59_if (o59_if (ih 3 L (mAr σ 30 _ _)) rfl) rfl) rfl
    | 3 => rw [x_bindOne, x_bindOne]; rfl
    | b + 4 => rw [x_bindOne, x_bindOne]; rfl
theorem c59_dropIter : ∀ (k b : Nat) (L : Nat → Int32) (σ : MS), x_dropIter k b L (mSc σ 59 x) = o59 x (x_dropIter k b L σ) := by
  intro k
  induction k with
  | zero => intro b L σ; rw [x_dropIter, x_dropIter]; rfl
  | succ k ih =>
    intro b L σ
    match b with
    | 0 => rw [x_dropIter, x_dropIter]; exact o59_if (o59_if (ih 1 L (mAr σ 30 _ _)) rfl) rfl
    | 1 =>
      rw [x_dropIter, x_dropIter]
      exact o59_if (o59_if (o59_ob (c59_size k 0 _ σ) (fun r => congrArg (fun s : MS => some ((0 : Int32), s)) (mSc_c (σ := r.2) (j := 59) (k := 64) (by decide)))) rfl) rfl
    | b + 2 => rw [x_dropIter, x_dropIter]; rfl
theorem c59_closeFor : ∀ (k b : Nat) (L : Nat → Int32) (σ : MS), x_closeFor k b L (mSc σ 59 x) = o59 x (x_closeFor k b L σ) := by
  intro k
  induction k with
  | zero => intro b L σ; rw [x_closeFor, x_closeFor]; rfl
  | succ k ih =>
    intro b L σ
    match b with
    | 0 => rw [x_closeFor, x_closeFor]; exact o59_if (ih 1 _ σ) rfl
    | 1 => rw [x_closeFor, x_closeFor]; exact o59_if (o59_if (o59_if (ih 2 L σ) (o59_ob (c59_dropIter k 0 _ σ) (fun r => ih 1 L r.2))) rfl) rfl
    | 2 => rw [x_closeFor, x_closeFor]; exact o59_if (o59_if (ih 3 L (mAr σ 30 _ _)) rfl) rfl
    | 3 => rw [x_closeFor, x_closeFor]; exact o59_if (o59_if (ih 4 _ σ) rfl) rfl
    | 4 => rw [x_closeFor, x_closeFor]; exact o59_if (ih 8 L σ) (o59_if (ih 5 _ σ) rfl)
    | 5 =>
      rw [x_closeFor, x_closeFor]
      exact o59_if (ih 7 L σ) (o59_ob (c59_valueOf k 0 _ σ) (fun r => o59_ob (c59_size k 0 _ r.2) (fun q => (congrArg (x_closeFor k 6 L) (mSc_c (σ := q.2) (j := 59) (k := 64) (by decide))).trans (ih 6 L (mSc q.2 64 _)))))
    | 6 => rw [x_closeFor, x_closeFor]; exact o59_ob (c59_bindOne k 0 _ σ) (fun r => o59_if (ih 5 _ r.2) rfl)
    | 7 => rw [x_closeFor, x_closeFor]; exact o59_if (ih 4 _ σ) rfl
    | 8 => rw [x_closeFor, x_closeFor]; rfl
    | b + 9 => rw [x_closeFor, x_closeFor]; rfl
end O59
end JnS253
section JnS254
/-! Statements on both sides (reference): points, ifs. -/
/-- branches of an if -/
def BrL (T : Nat → Nat → Int32) (FN : Nat → Nat → Prop) (S : Nat → Nat → Nat → Nat → Prop) (un d v n : Nat) : Nat → Int32 → Prop
  | 0, x => x = -1
  | q + 1, x => ∃ e, x = nI e ∧ (1 ≤ e ∧ e < LNo T % 70001) ∧ (T 5 e = -2 ∨ T 5 e = -3 ∨ Wx0 T FN (lcU un T) (T 5 e)) ∧ BdE T S un d v n (T 6 e) ∧ BrL T FN S un d v n q (T 9 e)
/-- iterators are good on both sides -/
theorem ItS_ei {t w XC q : Nat} {σ1 σ2 : MS} (hE : EI t w XC σ1 σ2) (h3 : σ1.2.2 30 3 = nI q) (hq : q ≤ 3100) (h : ItS σ1 q) : ItS σ2 q := by
  obtain ⟨g1, l1, B1, h1, X1, g2, l2, B2, h2, X2, n1, n2, hR, _⟩ := hE
  intro i hi
  have st : StI (σ1.2.2 30) 0 (5314 + i) := by
    unfold StI
    rw [show (0 + 3) = 3 from rfl, h3, n_cl (p := q) (by omega)]; omega
  obtain ⟨m, m', e1, v1, e2, v2, ev, b1, b2⟩ := hR.1 30 (5314 + i) (Or.inr (Or.inl ⟨rfl, st⟩)) (by unfold VwR; omega)
  have k := hR.2.1 30 (8414 + i) (by unfold AlR; omega) (by unfold Zn; omega) (InA_it h3 (by omega) (by omega))
  have e : szV σ2 30 (5314 + i) = szV σ1 30 (5314 + i) := by
    unfold szV
    rw [e1, e2, n_cl (p := m) (by omega), n_cl (p := m') (by omega), (EVb_sz ev).1, (EVb_sz ev).2.2]
    rcases EVb_3 ev with ⟨z, y⟩ | ⟨z, y⟩
    · rw [y, if_pos z, if_pos z]
    · rw [if_neg (by omega), if_neg (by omega), EVb_hd ev z (i := 1) (by omega)]
  rw [e, ← k]; exact h i hi
/-- a point more -/
theorem PtQ_mp {T : Nat → Nat → Int32} {S : Nat → Nat → Nat → Nat → Prop} {P c un d v n : Nat} {F : List Nat} {τ ρ : MS} (hM : Mpt P τ ρ) (hP : τ.1 63 = nI P) (h20 : P < 20) (hQ : PtQ T S τ) (hl : F.length ≤ 1020) (hPos : Pos T S c un d v n F τ) (h0 : τ.2.2 30 0 = nI n) (hk : T 4 n = 44 ∨ T 4 n = 46) : PtQ T S ρ := by
  obtain ⟨a1, a2, a3, a4, a5, a6, a7, a8, a9⟩ := hM
  intro p hp
  rw [a9, n_cl (p := P + 1) (by omega)] at hp
  by_cases e : p = P
  · subst e
    obtain ⟨h1, h2, h3, h4, h5, h6, h7⟩ := hPos
    exact ⟨c, un, d, v, n, F, PlA_c (A := τ.2.2 30) ⟨h1, h2, h3, h4, h5, h6, by omega⟩ (fun i hi => a4 i (by omega)), (a4 0 (by omega)).trans h0, hk⟩
  · obtain ⟨c, un, d, v, n, F, h1, h2, h3⟩ := hQ p (by rw [hP, n_cl (p := P) (by omega)]; omega)
    exact ⟨c, un, d, v, n, F, PlA_c h1 (fun i hi => a5 _ (by omega)), (a5 _ (by omega)).trans h2, h3⟩
section DEC
variable {T : Nat → Nat → Int32} {FN : Nat → Nat → Prop} {S : Nat → Nat → Nat → Nat → Prop} {t w XC : Nat} {σ1 σ2 : MS}
/-- a point is made, or error 6 -/
theorem E_makePoint (hW : SWf T FN S) (hXC : XC ≤ 401000) {c un d v n w' : Nat} (ht : t + 9 + KBn T ≤ w' + 17000) {F : List Nat} {τ1 τ2 : MS} (hk : T 4 n = 44 ∨ T 4 n = 46) (hM : Mid T FN S t w' XC σ1 σ2 τ1 τ2) (hP : Pos T S c un d v n F τ1) {L1 L2 : Nat → Int32} (d1 : L1 1 = nI n) (d2 : L2 1 = nI n) : T2 (fun k => x_makePoint k 0 L1 τ1) (fun k => x_makePoint k 0 L2 τ2) (fun r1 r2 => (Mid T FN S t w' XC σ1 σ2 r1.2 r2.2 ∧ Pos T S c un d v n F r1.2) ∨ ((UT r1.2 ∧ UT r2.2 ∧ Bs T FN r1.2 ∧ Bs T FN r2.2 ∧ ∀ j, j = 103 ∨ j = 104 ∨ j = 110 ∨ j = 68 → r1.2.1 j = σ1.1 j ∧ r2.2.1 j = σ2.1 j) ∧ EZ t 179400 r1.2 ∧ EZ t 179400 r2.2)) := by
  obtain ⟨hE, U1, U2, B1, B2, kp⟩ := id hM
  have w6 := EI_w hE
  have al : ∀ j, AlS j → τ2.1 j = τ1.1 j := fun j hj => by
    obtain ⟨g1, l1, B1, h1, X1, g2, l2, B2, h2, X2, _, _, hR, _⟩ := hE
    exact (hR.2.2.1 j hj).symm
  obtain ⟨h64, P, h63, hP20, h65, _, hl, _⟩ := id U1
  obtain ⟨k64, P', k63, hP20', k65, _, kl, _⟩ := id U2
  have eS : StS τ2 = StS τ1 := (n_eq (by omega) (by omega)).mp (k64.symm.trans ((al 64 (by unfold AlS; omega)).trans h64))
  have eP : P' = P := (n_eq (by omega) (by omega)).mp (k63.symm.trans ((al 63 (by unfold AlS; omega)).trans h63))
  subst eP
  have eR : suN (PtS τ2) P' = suN (PtS τ1) P' := (n_eq (by omega) (by omega)).mp (k65.symm.trans ((al 65 (by unfold AlS; omega)).trans h65))
  have fail : ∀ (N1 N2 : Nat → Int32), T2 (fun k => x_makePoint k 1 N1 τ1) (fun k => x_makePoint k 1 N2 τ2) (fun r1 r2 => (Mid T FN S t w' XC σ1 σ2 r1.2 r2.2 ∧ Pos T S c un d v n F r1.2) ∨ ((UT r1.2 ∧ UT r2.2 ∧ Bs T FN r1.2 ∧ Bs T FN r2.2 ∧ ∀ j, j = 103 ∨ j = 104 ∨ j = 110 ∨ j = 68 → r1.2.1 j = σ1.1 j ∧ r2.2.1 j = σ2.1 j) ∧ EZ t 179400 r1.2 ∧ EZ t 179400 r2.2)) := by
    intro N1 N2
    refine T2_suc (fun k => by rw [x_makePoint]) (fun k => by rw [x_makePoint]) ?_
    refine T2_ob (T2_t (s_fail _ _) (s_fail _ _)) (fun y z hy => ?_)
    rw [hy.1, hy.2]
    obtain ⟨z1, z2⟩ := E_er (a := t) (b := 179400) (e := 6) (by omega) hE (by omega) (by decide) (Nat.le_refl _) (by omega)
    exact T2_some (Or.inr ⟨⟨UT_fe FE_er U1, UT_fe FE_er U2, Bs_fc (I := fun _ => False) B1 (FC_fe FE_er), Bs_fc (I := fun _ => False) B2 (FC_fe FE_er), kp_fc (I := fun _ => False) kp.1 (FC_fe FE_er) (FC_fe FE_er)⟩, z1, z2⟩)
  refine T2_suc (fun k => by rw [x_makePoint]) (fun k => by rw [x_makePoint]) ?_
  rw [h63, k63]
  refine T2_ite Iff.rfl (fun _ _ => fail _ _) (fun nP _ => ?_)
  have hlt : P' < 20 := by
    have : P' ≠ 20 := fun e => nP (by rw [e]; rfl)
    omega
  have ar : τ1.1 64 + τ1.1 65 + τ1.1 64 = nI (StS τ1 + suN (PtS τ1) P' + StS τ1) := by rw [h64, h65, n_add (by omega), n_add (by omega)]
  have ar2 : τ2.1 64 + τ2.1 65 + τ2.1 64 = nI (StS τ1 + suN (PtS τ1) P' + StS τ1) := by
    rw [al 64 (by unfold AlS; omega), al 65 (by unfold AlS; omega)]; exact ar
  rw [ar, ar2]
  refine T2_ite Iff.rfl (fun le _ => ?_) (fun _ _ => fail _ _)
  have le := (n_le (q := 40000) (by omega) (by decide)).mp le
  refine T2_suc (fun k => by rw [x_makePoint]) (fun k => by rw [x_makePoint]) ?_
  rw [d1, d2]
  refine T2_chk (by decide) (by decide) ?_
  rw [show (0 : Int32).toNatClampNeg = 0 from by decide]
  show T2 (fun k => x_makePoint k 3 L1 (mAr τ1 30 0 (nI n))) (fun k => x_makePoint k 3 L2 (mAr τ2 30 0 (nI n))) _
  have hM0 := Mid_0 (x := nI n) hM
  have hP0 := Pos_0 hW (x := nI n) hP
  have s0 : ∀ τ : MS, UT τ → UT (mAr τ 30 0 (nI n)) → StS (mAr τ 30 0 (nI n)) = StS τ ∧ ∀ p, PtS (mAr τ 30 0 (nI n)) p = PtS τ p := fun τ u1 u2 => by
    refine ⟨?_, fun p => by unfold PtS; rw [kC_r (σ := τ) (ρ := mAr τ 30 0 (nI n)) (mAr_o (by decide)) (mAr_o (by decide)) rfl, mAr_o (by decide), mAr_o (by decide)]⟩
    have a := u1.1
    have b := u2.1
    obtain ⟨_, _, _, _, _, _, l1, _⟩ := u1
    obtain ⟨_, _, _, _, _, _, l2, _⟩ := u2
    exact (n_eq (by omega) (by omega)).mp (b.symm.trans a)
  have z0 : (mAr τ1 30 0 (nI n)).2.2 30 0 = nI n := by rw [mAr_s, upd_same]
  have z63 : (mAr τ1 30 0 (nI n)).1 63 = nI P' := h63
  have y63 : (mAr τ2 30 0 (nI n)).1 63 = nI P' := k63
  obtain ⟨q1, q2⟩ := s0 τ1 U1 hM0.2.1
  obtain ⟨q3, q4⟩ := s0 τ2 U2 hM0.2.2.1
  generalize mAr τ1 30 0 (nI n) = ν1 at *
  generalize mAr τ2 30 0 (nI n) = ν2 at *
  refine T2_suc (fun k => by rw [x_makePoint]) (fun k => by rw [x_makePoint]) ?_
  have cp0 : ∀ ν : MS, CpT P' 0 ν ν := fun ν => ⟨rfl, rfl, fun _ _ => rfl, fun j hj => by omega, fun _ _ => rfl⟩
  refine T2_mono (T2_t (s_copy z63 hlt 11514 0 ν1 _ (by omega) (cp0 ν1) rfl) (s_copy y63 hlt 11514 0 ν2 _ (by omega) (cp0 ν2) rfl)) (fun r1 r2 hr => ?_)
  obtain ⟨⟨_, m1⟩, ⟨_, m2⟩⟩ := hr
  have sum1 : suN (PtS ν1) P' = suN (PtS τ1) P' := suN_c (fun p _ => q2 p)
  have sum2 : suN (PtS ν2) P' = suN (PtS τ1) P' := (suN_c (fun p _ => q4 p)).trans eR
  obtain ⟨_, _, _, _, bq⟩ := Pos_b hW hP0
  have W1 := UT_mp hM0.2.1 z63 hlt m1 (by rw [q1, sum1]; exact le) hP0.2.2.2.2.2.1 (by omega) hP0.2.2.2.2.2.2
  have W2 := UT_mp hM0.2.2.1 y63 hlt m2 (by rw [q3, sum2, eS]; exact le) ((EI_30 hM0.1 (by unfold Zn; omega) (InA_4 (by omega))).trans hP0.2.2.2.2.2.1) (by omega) (ItS_ei hM0.1 hP0.2.2.2.2.2.1 (by omega) hP0.2.2.2.2.2.2)
  have bs : ∀ (ν ρ : MS), Mpt P' ν ρ → Bs T FN ν → Bs T FN ρ := fun ν ρ m b => by
    obtain ⟨a1, a2, a3, _⟩ := m
    obtain ⟨b0, b2, b3, b4, b5, b6, b7⟩ := b
    exact ⟨STb_b b0 (fun j hj => a1 j (by omega) (by omega)) (fun a i q => by rw [a3 a (by omega) (by omega)]), fun a i h1 h2 h3 => by rw [a3 a (by omega) (by omega)]; exact b2 a i h1 h2 h3, (a1 67 (by decide) (by decide)).trans b3, (a1 97 (by decide) (by decide)).trans b4, (a1 72 (by decide) (by decide)).trans b5, (a1 69 (by decide) (by decide)).trans b6, fun i => (congrFun (kC_r (a3 20 (by decide) (by decide)) (a3 21 (by decide) (by decide)) (a1 30 (by decide) (by decide))) i).trans (b7 i)⟩
  refine Or.inl ⟨⟨EI_mp hM0.1 z63 hlt m1 m2, W1, W2, bs _ _ m1 hM0.2.2.2.1, bs _ _ m2 hM0.2.2.2.2.1, fun j hj => ?_, PtQ_mp m1 z63 hlt hM0.2.2.2.2.2.2.1 (Pos_b hW hP0).2.2.2.1 hP0 z0 hk, ⟨hM0.2.2.2.2.2.2.2.choose, (m1.1 106 (by decide) (by decide)).trans hM0.2.2.2.2.2.2.2.choose_spec.1, hM0.2.2.2.2.2.2.2.choose_spec.2⟩⟩, ?_⟩
  · have := hM0.2.2.2.2.2.1 j hj
    exact ⟨(m1.1 j (by omega) (by omega)).trans this.1, (m2.1 j (by omega) (by omega)).trans this.2⟩
  · obtain ⟨_, _, _, b3, b4⟩ := Pos_b hW hP0
    obtain ⟨g1, g2, g3, g4, g5, g6, g7⟩ := hP0
    have r30 : r1.2.2.2 30 = ν1.2.2 30 := m1.2.2.1 30 (by decide) (by decide)
    exact ⟨g1, by rw [r30]; exact g2, by rw [r30]; exact g3, by rw [r30]; exact g4, by rw [r30]; exact g5, by rw [r30]; exact g6, ItS_c (σ := ν1) (by omega) (m1.2.2.1 28 (by decide) (by decide)) (fun i _ => by rw [r30]) g7⟩
/-- an if is decided -/
theorem E_decide (hW : SWf T FN S) (hXC : XC ≤ 401000) (ht : t + 9 + KBn T ≤ w + 17000) {c un d v n : Nat} {F : List Nat} (hk : T 4 n = 46) : ∀ (q w' : Nat) (x : Int32) (τ1 τ2 : MS) (N1 N2 : Nat → Int32), w ≤ w' → Mid T FN S t w' XC σ1 σ2 τ1 τ2 → Pos T S c un d v n F τ1 → BrL T FN S un d v n q x → N1 1 = nI n → N2 1 = nI n → N1 3 = x → N2 3 = x → T2 (fun k => x_decide k 1 N1 τ1) (fun k => x_decide k 1 N2 τ2) (fun r1 r2 => OuQ T FN S t w XC σ1 σ2 r1.2 r2.2) := by
  intro q
  induction q with
  | zero =>
    intro w' x τ1 τ2 N1 N2 hw hM hP hL n1 o1 n3 o3
    have hL : x = -1 := hL
    refine T2_suc (fun k => by rw [x_decide]) (fun k => by rw [x_decide]) ?_
    rw [n3, o3, hL]
    refine T2_ite Iff.rfl (fun _ _ => ?_) (fun z _ => absurd rfl z)
    refine T2_suc (fun k => by rw [x_decide]) (fun k => by rw [x_decide]) ?_
    exact T2_ob (E_pass hW hXC ht hw hM hP (by exact n1) (by exact o1)) (fun r1 r2 hr => T2_some hr)
  | succ q ih =>
    intro w' x τ1 τ2 N1 N2 hw hM hP hL n1 o1 n3 o3
    obtain ⟨e, xe, he, h5, h6, hL⟩ := hL
    obtain ⟨hE, U1, U2, B1, B2, kp⟩ := id hM
    have w6 := EI_w hE
    obtain ⟨e1, e2⟩ := EI_e hE
    have hSc := Pos_sc B1 hP
    -- block 6
    have six : ∀ (h : Int32) (w2 : Nat) (ρ1 ρ2 : MS) (K1 K2 : Nat → Int32), w ≤ w2 → Mid T FN S t w2 XC σ1 σ2 ρ1 ρ2 → Pos T S c un d v n F ρ1 → K1 1 = nI n → K2 1 = nI n → K1 3 = nI e → K2 3 = nI e → K1 4 = h → K2 4 = h → T2 (fun k => x_decide k 5 K1 ρ1) (fun k => x_decide k 5 K2 ρ2) (fun r1 r2 => OuQ T FN S t w XC σ1 σ2 r1.2 r2.2) := by
      intro h w2 ρ1 ρ2 K1 K2 hw2 hK hPk k1 l1 k3 l3 k4 l4
      obtain ⟨x1, x2⟩ := EI_e hK.1
      have C1 := hK.2.2.2.1
      have C2 := hK.2.2.2.2.1
      refine T2_suc (fun k => by rw [x_decide]) (fun k => by rw [x_decide]) ?_
      rw [x1, x2]
      refine T2_ite Iff.rfl (fun _ _ => ?_) (fun z _ => absurd (by decide) z)
      refine T2_suc (fun k => by rw [x_decide]) (fun k => by rw [x_decide]) ?_
      rw [k4, l4]
      refine T2_ite Iff.rfl (fun _ _ => ?_) (fun _ _ => ?_)
      · refine T2_suc (fun k => by rw [x_decide]) (fun k => by rw [x_decide]) ?_
        rw [k3, l3]
        refine T2_chk (n_in (by omega) (by omega)) (n_in (by omega) (by omega)) ?_
        rw [n_cl (p := e) (by omega), C1.1.1 9 _ (by omega) (by omega) (by omega), C2.1.1 9 _ (by omega) (by omega) (by omega)]
        exact ih w2 (T 9 e) ρ1 ρ2 _ _ hw2 hK hPk hL k1 l1 rfl rfl
      · rw [k3, l3]
        refine T2_chk (n_in (by omega) (by omega)) (n_in (by omega) (by omega)) ?_
        obtain ⟨hIn, hy⟩ := Pos_bd hW hPk (Or.inl hk) h6
        refine T2_ob (E_enter hW hXC ht hw2 hK hIn hy ?_ ?_ (by exact k1) (by exact l1)) (fun s1 s2 hs => T2_some hs)
        · show ρ1.2.2 6 (nI e).toNatClampNeg = _
          rw [n_cl (p := e) (by omega), C1.1.1 6 _ (by omega) (by omega) (by omega)]
        · show ρ2.2.2 6 (nI e).toNatClampNeg = _
          rw [n_cl (p := e) (by omega), C2.1.1 6 _ (by omega) (by omega) (by omega)]
    have fiveZ : ∀ (ρ1 ρ2 : MS) (K1 K2 : Nat → Int32), OuQ T FN S t w XC σ1 σ2 ρ1 ρ2 → EZ t 179400 ρ1 → EZ t 179400 ρ2 → T2 (fun k => x_decide k 5 K1 ρ1) (fun k => x_decide k 5 K2 ρ2) (fun r1 r2 => OuQ T FN S t w XC σ1 σ2 r1.2 r2.2) := by
      intro ρ1 ρ2 K1 K2 h z1 z2
      refine T2_suc (fun k => by rw [x_decide]) (fun k => by rw [x_decide]) ?_
      refine T2_ite ⟨fun z => absurd z (EZ_le z1), fun z => absurd z (EZ_le z2)⟩ (fun z _ => absurd z (EZ_le z1)) (fun _ _ => ?_)
      exact T2_some h
    have three : ∀ (h : Int32) (K1 K2 : Nat → Int32), (h = 0 ↔ ¬ T 5 e = -2) → K1 1 = nI n → K2 1 = nI n → K1 3 = nI e → K2 3 = nI e → K1 100 = h → K2 100 = h → T2 (fun k => x_decide k 3 K1 τ1) (fun k => x_decide k 3 K2 τ2) (fun r1 r2 => OuQ T FN S t w XC σ1 σ2 r1.2 r2.2) := by
      intro h K1 K2 hh k1 l1 k3 l3 k100 l100
      refine T2_suc (fun k => by rw [x_decide]) (fun k => by rw [x_decide]) ?_
      rw [k3, l3, k1, l1, k100, l100]
      refine T2_chk (n_in (by omega) (by omega)) (n_in (by omega) (by omega)) ?_
      rw [n_cl (p := e) (by omega), B1.1.1 5 _ (by omega) (by omega) (by omega), B2.1.1 5 _ (by omega) (by omega) (by omega)]
      refine T2_ite Iff.rfl (fun _ _ => ?_) (fun n3' _ => ?_)
      · refine T2_ob (E_makePoint hW hXC (by omega) (Or.inr hk) hM hP rfl rfl) (fun r1 r2 hr => ?_)
        rcases hr with ⟨hK, hPk⟩ | ⟨hz, z1, z2⟩
        · exact six 1 w' _ _ _ _ hw hK hPk k1 l1 k3 l3 rfl rfl
        · exact fiveZ _ _ _ _ (Or.inr ⟨hz, z1, z2⟩) z1 z2
      · refine T2_suc (fun k => by rw [x_decide]) (fun k => by rw [x_decide]) ?_
        show T2 (fun k => if h = 0 then _ else _) (fun k => if h = 0 then _ else _) _
        refine T2_ite Iff.rfl (fun h0 _ => ?_) (fun _ _ => six h w' τ1 τ2 _ _ hw hM hP k1 l1 k3 l3 rfl rfl)
        have w5 : Wx0 T FN (lcU un T) (T 5 e) := by
          rcases h5 with z | z | z
          · exact absurd z (hh.mp h0)
          · exact absurd z n3'
          · exact z
        show T2 (fun k => if ¬ (K1 3 < 0 ∨ 70000 ≤ (K1 3).toNatClampNeg) then ob (x_holds k 0 (upd (fun _ => 0) 1 (τ1.2.2 5 (K1 3).toNatClampNeg)) τ1) _ else _) (fun k => if ¬ (K2 3 < 0 ∨ 70000 ≤ (K2 3).toNatClampNeg) then ob (x_holds k 0 (upd (fun _ => 0) 1 (τ2.2.2 5 (K2 3).toNatClampNeg)) τ2) _ else _) _
        rw [k3, l3]
        refine T2_chk (n_in (by omega) (by omega)) (n_in (by omega) (by omega)) ?_
        rw [n_cl (p := e) (by omega), B1.1.1 5 _ (by omega) (by omega) (by omega), B2.1.1 5 _ (by omega) (by omega) (by omega)]
        refine T2_ob (E_hold (by omega) (by omega) hSc.1 w5 hE rfl rfl) (fun r1 r2 hr => ?_)
        obtain ⟨a1, f1, f2, a4⟩ := hr
        rcases a4 with ⟨w2, hw2, hJ⟩ | ⟨z1, z2, _⟩
        · exact six r1.1 w2 r1.2 r2.2 _ _ (Nat.le_trans hw hw2) (Mid_fc (I := fun _ => False) hM (FC_fe f1) (FC_fe f2) hJ (UT_fe f1 U1) (UT_fe f2 U2)) (Pos_fs hW (FS_fe f1) hP) k1 l1 k3 l3 rfl a1.symm
        · have y1 := EZ_mo z1 (Nat.le_refl _) (show 179300 ≤ 179400 by omega)
          have y2 := EZ_mo z2 (Nat.le_refl _) (show 179300 ≤ 179400 by omega)
          exact fiveZ _ _ _ _ (OuQ_z (I := fun _ => False) hM (FC_fe f1) (FC_fe f2) (UT_fe f1 U1) (UT_fe f2 U2) (by omega) z1 z2) y1 y2
    refine T2_suc (fun k => by rw [x_decide]) (fun k => by rw [x_decide]) ?_
    rw [n3, o3, xe, e1, e2]
    refine T2_ite Iff.rfl (fun z _ => absurd z (ne_m1 he)) (fun _ _ => ?_)
    refine T2_ite Iff.rfl (fun _ _ => ?_) (fun z _ => absurd rfl z)
    refine T2_chk (n_in (by omega) (by omega)) (n_in (by omega) (by omega)) ?_
    rw [n_cl (p := e) (by omega), B1.1.1 5 _ (by omega) (by omega) (by omega), B2.1.1 5 _ (by omega) (by omega) (by omega)]
    refine T2_ite Iff.rfl (fun z _ => ?_) (fun z _ => ?_)
    · exact three 1 _ _ ⟨fun y => absurd y (by decide), fun y => absurd z y⟩ n1 o1 (n3.trans xe) (o3.trans xe) rfl rfl
    · refine T2_suc (fun k => by rw [x_decide]) (fun k => by rw [x_decide]) ?_
      exact three 0 _ _ ⟨fun _ => z, fun _ => rfl⟩ n1 o1 (n3.trans xe) (o3.trans xe) rfl rfl
end DEC
end JnS254
section JnS255
/-! Statements on both sides (reference): a point is given up, success. -/
/-- the last point is gone -/
def mDp (P : Nat) (τ : MS) : MS := mSc (mSc τ 63 (nI P)) 65 (τ.1 65 - τ.2.2 32 P)
section DPT
variable {T : Nat → Nat → Int32} {FN : Nat → Nat → Prop} {S : Nat → Nat → Nat → Nat → Prop} {P t w XC : Nat} {τ τ1 τ2 σ1 σ2 : MS}
theorem mDp_s {j : Nat} (h : j ≠ 63 ∧ j ≠ 65) : (mDp P τ).1 j = τ.1 j := by
  show upd (upd τ.1 63 _) 65 _ j = _
  rw [upd_other h.2, upd_other h.1]
theorem mDp_63 : (mDp P τ).1 63 = nI P := rfl
theorem UT_dp (hU : UT τ) (hP : τ.1 63 = nI (P + 1)) (h20 : P < 20) : UT (mDp P τ) ∧ (mDp P τ).1 65 = nI (suN (PtS τ) P) := by
  obtain ⟨h64, P', h63, hP', h65, h32, hl, o1, o2, o3, o4, o5⟩ := hU
  have eP : P' = P + 1 := (n_eq (by omega) (by omega)).mp (h63.symm.trans hP)
  subst eP
  have es : suN (PtS τ) (P + 1) = suN (PtS τ) P + PtS τ P := rfl
  have e65 : (mDp P τ).1 65 = nI (suN (PtS τ) P) := by
    show τ.1 65 - τ.2.2 32 P = _
    rw [h65, h32 P (by omega), n_sub (by omega) (by omega), es, Nat.add_sub_cancel]
  exact ⟨⟨h64, P, rfl, by omega, e65, fun p hp => h32 p (by omega), by show StS τ + suN (PtS τ) P ≤ 40000; omega, o1, fun p hp => o2 p (by omega), o3, o4, fun p hp => o5 p (by omega)⟩, e65⟩
theorem EI_dp (hE : EI t w XC τ1 τ2) (U1 : UT τ1) (U2 : UT τ2) (hP : τ1.1 63 = nI (P + 1)) (h20 : P < 20) : EI t w XC (mDp P τ1) (mDp P τ2) := by
  have hE0 := hE
  obtain ⟨g1, l1, B1, h1, X1, g2, l2, B2, h2, X2, n1, n2, hR, _, _, t1, _⟩ := hE0
  have r32 : ∀ j, j < P + 1 → τ1.2.2 32 j = τ2.2.2 32 j := fun j hj => hR.2.1 32 j (by unfold AlR; omega) (by unfold Zn; omega) (fun y => by unfold InA at y; rw [hP, n_cl (p := P + 1) (by omega)] at y; omega)
  refine EI_mv hE (fun j hj => mDp_s (by omega)) (fun j hj => mDp_s (by omega)) rfl rfl (fun a _ _ _ _ _ => rfl) (fun a _ _ _ _ _ => rfl) t1 ?_ (fun j hj hn => hR.2.1 30 j (by unfold AlR; omega) hj (fun y => hn (InA_n30 (σ := τ1) (fun k _ => Nat.le_refl _) y))) (fun j hj hn => hR.2.1 31 j (by unfold AlR; omega) hj (fun y => hn ?_)) (fun j hn => r32 j ?_) (fun j hj => ?_) (fun a j ha z => ?_)
  · obtain ⟨P', e, y1, y2, y3, y4, y5, y6⟩ := n1.2.1
    have eP : P' = P + 1 := (n_eq (by omega) (by omega)).mp (y1.symm.trans hP)
    subst eP
    exact ⟨P, e, rfl, by omega, y3, y4, y5, fun p hp => y6 p (by omega)⟩
  · unfold InA at y ⊢
    rw [mDp_63, n_cl (p := P) (by omega)]
    rw [hP, n_cl (p := P + 1) (by omega)] at y
    rcases y with y | y | y
    · omega
    · refine Or.inr (Or.inl ⟨rfl, ?_⟩)
      rcases y.2 with y | y
      · exact Or.inl (by omega)
      · exact Or.inr y
    · omega
  · refine Classical.byContradiction (fun c => hn ?_)
    unfold InA
    rw [mDp_63, n_cl (p := P) (by omega)]
    exact Or.inr (Or.inr (Or.inl ⟨rfl, by omega⟩))
  · by_cases e3 : j = 63
    · rw [e3]; rfl
    · by_cases e5 : j = 65
      · rw [e5]
        show τ1.1 65 - τ1.2.2 32 P = τ2.1 65 - τ2.2.2 32 P
        rw [hR.2.2.1 65 (by unfold AlS; omega), r32 P (by omega)]
      · rw [mDp_s ⟨e3, e5⟩, mDp_s ⟨e3, e5⟩]; exact hR.2.2.1 j hj
  · refine Or.inl ⟨a, j, by unfold VwR; omega, ?_, rfl, rfl⟩
    rcases z with z | z | ⟨z, p, hp, y⟩ | z | z
    · exact Or.inl z
    · exact Or.inr (Or.inl z)
    · refine Or.inr (Or.inr (Or.inl ⟨z, p, ?_, y⟩))
      rw [mDp_63, n_cl (p := P) (by omega)] at hp
      rw [hP, n_cl (p := P + 1) (by omega)]; omega
    · exact Or.inr (Or.inr (Or.inr (Or.inl z)))
    · have : a = 34 ∨ a = 36 ∨ a = 37 ∨ a = 38 ∨ a = 40 := by omega
      omega
theorem Mid_dp (hM : Mid T FN S t w XC σ1 σ2 τ1 τ2) (hP : τ1.1 63 = nI (P + 1)) (hP2 : τ2.1 63 = nI (P + 1)) (h20 : P < 20) : Mid T FN S t w XC σ1 σ2 (mDp P τ1) (mDp P τ2) := by
  obtain ⟨hE, U1, U2, B1, B2, kp⟩ := hM
  have w6 := EI_w hE
  have bs : ∀ τ : MS, Bs T FN τ → Bs T FN (mDp P τ) := fun τ b => ⟨b.1, b.2.1, (mDp_s (by omega)).trans b.2.2.1, (mDp_s (by omega)).trans b.2.2.2.1, (mDp_s (by omega)).trans b.2.2.2.2.1, (mDp_s (by omega)).trans b.2.2.2.2.2.1, b.2.2.2.2.2.2⟩
  exact ⟨EI_dp hE U1 U2 hP h20, (UT_dp U1 hP h20).1, (UT_dp U2 hP2 h20).1, bs _ B1, bs _ B2, fun j hj => ⟨(mDp_s (by omega)).trans (kp.1 j hj).1, (mDp_s (by omega)).trans (kp.1 j hj).2⟩, fun p hp => kp.2.1 p (by rw [mDp_63, n_cl (p := P) (by omega)] at hp; rw [hP, n_cl (p := P + 1) (by omega)]; omega), ⟨kp.2.2.choose, (mDp_s (by omega)).trans kp.2.2.choose_spec.1, kp.2.2.choose_spec.2⟩⟩
/-- success: the last point is given up -/
theorem E_succeed (hW : SWf T FN S) (hXC : XC ≤ 401000) (ht : t + 9 + KBn T ≤ w + 17000) {c un d v n w' : Nat} {F : List Nat} (hw : w ≤ w') (hM : Mid T FN S t w' XC σ1 σ2 τ1 τ2) (hP : Pos T S c un d v n F τ1) {L1 L2 : Nat → Int32} (d1 : L1 1 = nI n) (d2 : L2 1 = nI n) : T2 (fun k => x_succeed k 0 L1 τ1) (fun k => x_succeed k 0 L2 τ2) (fun r1 r2 => OuQ T FN S t w XC σ1 σ2 r1.2 r2.2) := by
  obtain ⟨hE, U1, U2, B1, B2, kp⟩ := id hM
  have w6 := EI_w hE
  obtain ⟨_, P, h63, hP20, _⟩ := id U1
  have k63 : τ2.1 63 = nI P := by
    obtain ⟨g1, l1, B1, h1, X1, g2, l2, B2, h2, X2, _, _, hR, _⟩ := hE
    exact (hR.2.2.1 63 (by unfold AlS; omega)).symm.trans h63
  refine T2_suc (fun k => by rw [x_succeed]) (fun k => by rw [x_succeed]) ?_
  rw [h63, k63]
  refine T2_ite Iff.rfl (fun _ _ => ?_) (fun z _ => ?_)
  · refine T2_ob (T2_t (s_fail _ _) (s_fail _ _)) (fun y z hy => ?_)
    rw [hy.1, hy.2]
    obtain ⟨z1, z2⟩ := E_er (a := t) (b := 179400) (e := 10) (by omega) hE (by omega) (by decide) (Nat.le_refl _) (by omega)
    exact T2_some (OuQ_z (I := fun _ => False) hM (FC_fe FE_er) (FC_fe FE_er) (UT_fe FE_er U1) (UT_fe FE_er U2) (Nat.le_refl _) z1 z2)
  obtain ⟨p, rfl⟩ : ∃ p, P = p + 1 := ⟨P - 1, by
    have : P ≠ 0 := fun e => z (by rw [e]; rfl)
    omega⟩
  refine T2_suc (fun k => by rw [x_succeed]) (fun k => by rw [x_succeed]) ?_
  rw [h63, k63, n_sub1 (by omega)]
  refine T2_suc (fun k => by rw [x_succeed]) (fun k => by rw [x_succeed]) ?_
  show T2 (fun k => if ¬ (nI p < 0 ∨ 20 ≤ (nI p).toNatClampNeg) then x_succeed k 3 L1 (mSc (mSc τ1 63 (nI p)) 65 (τ1.1 65 - τ1.2.2 32 (nI p).toNatClampNeg)) else none) (fun k => if ¬ (nI p < 0 ∨ 20 ≤ (nI p).toNatClampNeg) then x_succeed k 3 L2 (mSc (mSc τ2 63 (nI p)) 65 (τ2.1 65 - τ2.2.2 32 (nI p).toNatClampNeg)) else none) _
  refine T2_chk (n_in (by omega) (by omega)) (n_in (by omega) (by omega)) ?_
  rw [n_cl (p := p) (by omega)]
  refine T2_suc (fun k => by rw [x_succeed]) (fun k => by rw [x_succeed]) ?_
  have hP' : Pos T S c un d v n F (mDp p τ1) := ⟨hP.1, hP.2.1, hP.2.2.1, hP.2.2.2.1, hP.2.2.2.2.1, hP.2.2.2.2.2.1, hP.2.2.2.2.2.2⟩
  exact T2_ob (E_pass hW hXC ht hw (Mid_dp hM h63 k63 (by omega)) hP' (by exact d1) (by exact d2)) (fun r1 r2 hr => T2_some hr)
end DPT
end JnS255
section JnS256
/-! Statements on both sides (reference): quit, continue. -/
section LEA
variable {T : Nat → Nat → Int32} {FN : Nat → Nat → Prop} {S : Nat → Nat → Nat → Nat → Prop} {t w XC : Nat} {τ τ1 τ2 σ1 σ2 : MS}
/-- the loop around a statement -/
theorem s_loopOf1 (hW : SWf T FN S) {A : Nat → Int32} {c un : Nat} : ∀ (d v n : Nat) (F : List Nat), LVs T S A c un d v n F → hlp T d n → ∃ m d' v' F', LVs T S A c un d' v' m F' ∧ F = (if T 4 m = 48 then m :: F' else F') ∧ (T 4 m = 47 ∨ T 4 m = 48) ∧ ∀ (τ : MS) (N : Nat → Int32), Bs T FN τ → N 2 = upN T n → Tm (fun k => x_loopOf k 1 N τ) (fun r => r = (nI m, τ)) := by
  intro d
  induction d with
  | zero => intro v n F hL hh; exact absurd hh (fun z => z)
  | succ d ih =>
    intro v n F hL hh
    obtain ⟨_, _, _, hu, _⟩ := hW un (d + 1) v n (LVs_S hL)
    rcases hu with ⟨_, z⟩ | ⟨m, d', v', hu, ed, hm, hv, km⟩
    · omega
    have e : d' = d := by omega
    subst e
    obtain ⟨⟨m7, _⟩, ⟨p, p8, p4⟩, _⟩ := hW un d' v' m hm
    obtain ⟨F', hL', eF⟩ := LVs_up m7 hL hu hm
    have b2 : ∀ (τ : MS) (K : Nat → Int32), K 2 = nI m → Tm (fun k => x_loopOf k 2 K τ) (fun r => r = (nI m, τ)) := fun τ K k2 => by
      refine Tm_suc (fun k => by rw [x_loopOf]) ?_
      rw [k2]
      exact Tm_some rfl
    by_cases k47 : T 4 m = 47
    · refine ⟨m, d', v', F', hL', eF, Or.inl k47, fun τ N hB n2 => ?_⟩
      refine Tm_suc (fun k => by rw [x_loopOf]) ?_
      rw [n2, hu]
      refine Tm_chk (n_in (by omega) (by omega)) ?_
      rw [n_cl (p := m) (by omega), hB.1.1 4 _ (by omega) (by omega) (by omega)]
      exact Tm_ite (fun _ => b2 _ _ (n2.trans hu)) (fun z => absurd k47 z)
    by_cases k48 : T 4 m = 48
    · refine ⟨m, d', v', F', hL', eF, Or.inr k48, fun τ N hB n2 => ?_⟩
      refine Tm_suc (fun k => by rw [x_loopOf]) ?_
      rw [n2, hu]
      refine Tm_chk (n_in (by omega) (by omega)) ?_
      rw [n_cl (p := m) (by omega), hB.1.1 4 _ (by omega) (by omega) (by omega)]
      refine Tm_ite (fun z => absurd z k47) (fun _ => ?_)
      refine Tm_chk (n_in3 (by omega) (by omega)) ?_
      exact Tm_ite (fun _ => b2 _ _ (n2.trans hu)) (fun z => absurd k48 z)
    rw [if_neg k48] at eF
    subst eF
    have hh' : hlp T d' m := by
      have hh : T 4 (upN T n).toNatClampNeg = 47 ∨ T 4 (upN T n).toNatClampNeg = 48 ∨ hlp T d' (upN T n).toNatClampNeg := hh
      rw [hu, n_cl (p := m) (by omega)] at hh
      rcases hh with z | z | z
      · exact absurd z k47
      · exact absurd z k48
      · exact z
    obtain ⟨m2, d2, v2, F2, a1, a2, a3, a4⟩ := ih v' m F hL' hh'
    refine ⟨m2, d2, v2, F2, a1, a2, a3, fun τ N hB n2 => ?_⟩
    refine Tm_suc (fun k => by rw [x_loopOf]) ?_
    rw [n2, hu]
    refine Tm_chk (n_in (by omega) (by omega)) ?_
    rw [n_cl (p := m) (by omega), hB.1.1 4 _ (by omega) (by omega) (by omega)]
    refine Tm_ite (fun z => absurd z k47) (fun _ => ?_)
    refine Tm_chk (n_in3 (by omega) (by omega)) ?_
    refine Tm_ite (fun z => absurd z k48) (fun _ => ?_)
    refine Tm_chk (n_in3 (by omega) (by omega)) ?_
    rw [hB.1.1 8 _ (by omega) (by omega) (by omega), p8]
    refine Tm_chk (n_in (by omega) (by omega)) ?_
    rw [hB.1.1 10 _ (by omega) (by omega) ⟨by omega, fun _ => by rw [n_cl (p := p) (by omega)]; omega⟩]
    refine a4 τ _ hB ?_
    show T 10 (nI p).toNatClampNeg = upN T m
    unfold upN; rw [p8]
theorem s_loopOf (hW : SWf T FN S) {A : Nat → Int32} {c un d v n : Nat} {F : List Nat} (hL : LVs T S A c un d v n F) (hh : hlp T d n) : ∃ m d' v' F', LVs T S A c un d' v' m F' ∧ F = (if T 4 m = 48 then m :: F' else F') ∧ (T 4 m = 47 ∨ T 4 m = 48) ∧ ∀ (τ : MS) (L : Nat → Int32), Bs T FN τ → L 1 = nI n → Tm (fun k => x_loopOf k 0 L τ) (fun r => r = (nI m, τ)) := by
  obtain ⟨⟨n7, _⟩, ⟨p, p8, p4⟩, _⟩ := hW un d v n (LVs_S hL)
  obtain ⟨m2, d2, v2, F2, a1, a2, a3, a4⟩ := s_loopOf1 hW d v n F hL hh
  refine ⟨m2, d2, v2, F2, a1, a2, a3, fun τ N hB d1 => ?_⟩
  refine Tm_suc (fun k => by rw [x_loopOf]) ?_
  rw [d1]
  refine Tm_chk (n_in (by omega) (by omega)) ?_
  rw [n_cl (p := n) (by omega), hB.1.1 8 _ (by omega) (by omega) (by omega), p8]
  refine Tm_chk (n_in (by omega) (by omega)) ?_
  rw [hB.1.1 10 _ (by omega) (by omega) ⟨by omega, fun _ => by rw [n_cl (p := p) (by omega)]; omega⟩]
  refine a4 τ _ hB ?_
  show T 10 (nI p).toNatClampNeg = upN T n
  unfold upN; rw [p8]
/-- quit, continue -/
theorem E_leave (hW : SWf T FN S) (hXC : XC ≤ 401000) (ht : t + 9 + KBn T ≤ w + 17000) {c un d v n w' : Nat} {F : List Nat} (hw : w ≤ w') (hM : Mid T FN S t w' XC σ1 σ2 τ1 τ2) (hP : Pos T S c un d v n F τ1) (hh : hlp T d n) {L1 L2 : Nat → Int32} (d1 : L1 1 = nI n) (d2 : L2 1 = nI n) : T2 (fun k => x_leave k 0 L1 τ1) (fun k => x_leave k 0 L2 τ2) (fun r1 r2 => OuQ T FN S t w XC σ1 σ2 r1.2 r2.2) := by
  obtain ⟨hE, U1, U2, B1, B2, kp⟩ := id hM
  have w6 := EI_w hE
  obtain ⟨_, _, ⟨n7, _, _⟩, pb3, pb4⟩ := Pos_b hW hP
  obtain ⟨hc5, hc, hLV, h2, hF, h3, hIt⟩ := id hP
  have hSc := Pos_sc B1 hP
  obtain ⟨m, d', v', F', hL', eF, km, hlo⟩ := s_loopOf hW hLV hh
  obtain ⟨⟨m7, vm6, dm20, _⟩, _, _, _, h48, _⟩ := hW un d' v' m (LVs_S hL')
  have fin8 : ∀ (s1 s2 : MS) (K1 K2 : Nat → Int32), OuQ T FN S t w XC σ1 σ2 s1 s2 → T2 (fun k => x_leave k 8 K1 s1) (fun k => x_leave k 8 K2 s2) (fun r1 r2 => OuQ T FN S t w XC σ1 σ2 r1.2 r2.2) := fun s1 s2 K1 K2 h => T2_suc (fun k => by rw [x_leave]) (fun k => by rw [x_leave]) (T2_some h)
  -- on behind the loop
  have five : ∀ (w2 : Nat) (ρ1 ρ2 : MS) (K1 K2 : Nat → Int32), w ≤ w2 → Mid T FN S t w2 XC σ1 σ2 ρ1 ρ2 → Pos T S c un d' v' m F' ρ1 → K1 100 = nI m → K2 100 = nI m → T2 (fun k => x_leave k 5 K1 ρ1) (fun k => x_leave k 5 K2 ρ2) (fun r1 r2 => OuQ T FN S t w XC σ1 σ2 r1.2 r2.2) := by
    intro w2 ρ1 ρ2 K1 K2 hw2 hK hPk k1 l1
    refine T2_suc (fun k => by rw [x_leave]) (fun k => by rw [x_leave]) ?_
    exact T2_ob (E_goOnBehind hW hXC ht hw2 hK hPk (by exact k1) (by exact l1)) (fun s1 s2 hs => fin8 _ _ _ _ hs)
  have fiveM : ∀ (ρ1 ρ2 : MS) (K1 K2 : Nat → Int32), OuQ T FN S t w XC σ1 σ2 ρ1 ρ2 → K1 100 = -1 → K2 100 = -1 → T2 (fun k => x_leave k 5 K1 ρ1) (fun k => x_leave k 5 K2 ρ2) (fun r1 r2 => OuQ T FN S t w XC σ1 σ2 r1.2 r2.2) := by
    intro ρ1 ρ2 K1 K2 hO k1 l1
    refine T2_suc (fun k => by rw [x_leave]) (fun k => by rw [x_leave]) ?_
    refine T2_ob (T2_t (s_gobM (by exact k1)) (s_gobM (by exact l1))) (fun s1 s2 hs => ?_)
    rw [hs.1, hs.2]
    exact fin8 _ _ _ _ hO
  -- block 2
  have two : ∀ (x : Int32) (K1 K2 : Nat → Int32), K1 2 = nI m → K2 2 = nI m → K1 100 = x → K2 100 = x → T2 (fun k => x_leave k 2 K1 τ1) (fun k => x_leave k 2 K2 τ2) (fun r1 r2 => OuQ T FN S t w XC σ1 σ2 r1.2 r2.2) := by
    intro x K1 K2 k2 l2 k100 l100
    refine T2_suc (fun k => by rw [x_leave]) (fun k => by rw [x_leave]) ?_
    rw [k2, l2, k100, l100]
    refine T2_chk (n_in (by omega) (by omega)) (n_in (by omega) (by omega)) ?_
    rw [n_cl (p := m) (by omega), B1.1.1 4 _ (by omega) (by omega) (by omega), B2.1.1 4 _ (by omega) (by omega) (by omega)]
    refine T2_ite Iff.rfl (fun k48 _ => ?_) (fun k48 _ => ?_)
    · rw [if_pos k48] at eF
      subst eF
      obtain ⟨d19, f1, f2, f3, f4, f5⟩ := h48 k48
      have es : suI T (m :: F') = suI T F' + itn T m := Nat.add_comm _ _
      have el : F'.length + 1 ≤ 1050 := by have : (m :: F').length = F'.length + 1 := rfl; omega
      have g2 : τ1.2.2 30 2 = nI (F'.length + 1) := h2
      rw [es] at h3 hIt pb4
      refine T2_ite Iff.rfl (fun x0 _ => ?_) (fun x0 _ => ?_)
      · -- continue: the next turn
        refine T2_suc (fun k => by rw [x_leave]) (fun k => by rw [x_leave]) ?_
        show T2 (fun k => if x = 0 then x_leave k 4 (upd K1 3 x) τ1 else x_leave k 5 (upd (upd K1 3 x) 100 (K1 2)) τ1) (fun k => if x = 0 then x_leave k 4 (upd K2 3 x) τ2 else x_leave k 5 (upd (upd K2 3 x) 100 (K2 2)) τ2) _
        refine T2_ite Iff.rfl (fun _ _ => ?_) (fun z _ => absurd x0 z)
        refine T2_suc (fun k => by rw [x_leave]) (fun k => by rw [x_leave]) ?_
        refine T2_ob (E_seek (c := itn T m) (go := 0) (F := F') hXC (by omega) m7 f3 ⟨f1, by omega⟩ (by omega) el f4 hSc hE U1 U2 g2 hF h3 hIt (Nat.le_refl _) (fun z => absurd rfl z) (by exact k2) (by exact l2) rfl rfl) (fun r1 r2 hr => ?_)
        obtain ⟨c1, c2, c3, c4, c5, c6⟩ := hr
        have lc : ∀ i, 64 ≤ i → i < 214 → r1.2.2.2 30 i = τ1.2.2 30 i := fun i h1 h2 => FC_30 c2 (by unfold Zn; omega) (by unfold Isk Inx; omega)
        have c11 : r1.2.2.2 30 1 = nI c := (FC_30 c2 (by unfold Zn; omega) (by unfold Isk Inx; omega)).trans hc
        have fk : ∀ i, 3214 ≤ i → i < 5314 → r1.2.2.2 30 i = τ1.2.2 30 i := fun i h1 h2 => FC_30 c2 (by unfold Zn; omega) (by unfold Isk Inx; omega)
        rcases c6 with ⟨z1, z7, w2, hw2, hK, k0, k2, k3, k4⟩ | ⟨z1, w2, hw2, hK, k2, k3, k4⟩ | ⟨z1, z2, z3⟩
        · obtain ⟨b, vb, xb, hSb, hvb, ub⟩ := f5.resolve_left z7
          have hD := LVs_dn m7 hL' ub hSb
          rw [if_pos k48] at hD
          refine fiveM _ _ _ _ (Or.inl ⟨w2, by omega, Mid_fc hM c2 c3 hK c4 c5, Or.inl ⟨c, un, d' + 1, vb, b, m :: F', ⟨hc5, c11, LVs_c hc5 lc hD, k2, FSk_c el fk hF, by rw [es]; exact k3, by rw [es]; exact k4⟩, k0.trans xb⟩⟩) z1 (c1.symm.trans z1)
        · exact five w2 _ _ _ _ (by omega) (Mid_fc hM c2 c3 hK c4 c5) ⟨hc5, c11, LVs_c hc5 lc hL', k2, FSk_c (by omega) fk hF.2, k3, k4⟩ z1 (c1.symm.trans z1)
        · exact fiveM _ _ _ _ (OuQ_z hM c2 c3 c4 c5 (by omega) z2 z3) z1 (c1.symm.trans z1)
      · -- quit: the for is closed
        refine T2_ob (E_closeFor hSc hE U1 U2 el g2 hF h3 (by omega) f3) (fun r1 r2 hr => ?_)
        obtain ⟨c1, c2, c3, c4, c5, c6, c7, c8⟩ := hr
        have lc : ∀ i, 64 ≤ i → i < 214 → r1.2.2.2 30 i = τ1.2.2 30 i := fun i h1 h2 => FC_30 c4 (by unfold Zn; omega) (by omega)
        have c11 : r1.2.2.2 30 1 = nI c := (FC_30 c4 (by unfold Zn; omega) (by omega)).trans hc
        have fk : ∀ i, 3214 ≤ i → i < 5314 → r1.2.2.2 30 i = τ1.2.2 30 i := fun i h1 h2 => FC_30 c4 (by unfold Zn; omega) (by omega)
        refine T2_suc (fun k => by rw [x_leave]) (fun k => by rw [x_leave]) ?_
        show T2 (fun k => if x = 0 then x_leave k 4 (upd K1 3 x) r1.2 else x_leave k 5 (upd (upd K1 3 x) 100 (K1 2)) r1.2) (fun k => if x = 0 then x_leave k 4 (upd K2 3 x) r2.2 else x_leave k 5 (upd (upd K2 3 x) 100 (K2 2)) r2.2) _
        refine T2_ite Iff.rfl (fun z _ => absurd z x0) (fun _ _ => ?_)
        exact five w' _ _ _ _ hw (Mid_fc hM c4 c5 c1 c2 c3) ⟨hc5, c11, LVs_c hc5 lc hL', c6, FSk_c (by omega) fk hF.2, c7, c8 (ItS_mo hIt (by omega))⟩ k2 l2
    · rw [if_neg k48] at eF
      subst eF
      have hPm : Pos T S c un d' v' m F τ1 := Pos_lv hP hL'
      refine T2_suc (fun k => by rw [x_leave]) (fun k => by rw [x_leave]) ?_
      show T2 (fun k => if x = 0 then x_leave k 7 (upd K1 3 x) τ1 else ob (x_goOnBehind k 0 (upd (fun _ => 0) 1 (K1 2)) τ1) (fun r2 => x_leave k 8 (upd K1 3 x) r2.2)) (fun k => if x = 0 then x_leave k 7 (upd K2 3 x) τ2 else ob (x_goOnBehind k 0 (upd (fun _ => 0) 1 (K2 2)) τ2) (fun r2 => x_leave k 8 (upd K2 3 x) r2.2)) _
      refine T2_ite Iff.rfl (fun _ _ => ?_) (fun _ _ => ?_)
      · refine T2_suc (fun k => by rw [x_leave]) (fun k => by rw [x_leave]) ?_
        refine T2_chk (by decide) (by decide) ?_
        rw [show (0 : Int32).toNatClampNeg = 0 from by decide]
        show T2 (fun k => x_leave k 8 (upd K1 3 x) (mAr τ1 30 0 (K1 2))) (fun k => x_leave k 8 (upd K2 3 x) (mAr τ2 30 0 (K2 2))) _
        rw [k2, l2]
        exact fin8 _ _ _ _ (OuQ_0 hW hw hM hPm)
      · exact T2_ob (E_goOnBehind hW hXC ht hw hM hPm (by exact k2) (by exact l2)) (fun s1 s2 hs => fin8 _ _ _ _ hs)
  refine T2_suc (fun k => by rw [x_leave]) (fun k => by rw [x_leave]) ?_
  refine T2_ob (T2_t (hlo τ1 _ B1 (by exact d1)) (hlo τ2 _ B2 (by exact d2))) (fun r1 r2 hr => ?_)
  rw [hr.1, hr.2, d1, d2]
  refine T2_chk (n_in (by omega) (by omega)) (n_in (by omega) (by omega)) ?_
  rw [n_cl (p := n) (by omega)]
  show T2 (fun k => if τ1.2.2 4 n = 49 then _ else _) (fun k => if τ2.2.2 4 n = 49 then _ else _) _
  rw [B1.1.1 4 _ (by omega) (by omega) (by omega), B2.1.1 4 _ (by omega) (by omega) (by omega)]
  refine T2_ite Iff.rfl (fun _ _ => two 1 _ _ rfl rfl rfl rfl) (fun _ _ => ?_)
  refine T2_suc (fun k => by rw [x_leave]) (fun k => by rw [x_leave]) ?_
  exact two 0 _ _ rfl rfl rfl rfl
end LEA
end JnS256
section JnS257
/-! Statements on both sides (reference): return. -/
/-- an answer leaves the pile as it was -/
def P29 (A : Nat → Int32) (r : Option (Int32 × MS)) : Prop := ∀ q, r = some q → q.2.2.2 29 = A
section P29S
variable {A : Nat → Int32}
theorem p29_if {c : Prop} {d : Decidable c} {a b : Option (Int32 × MS)} (h1 : P29 A a) (h2 : P29 A b) : P29 A (if c then a else b) := by
  by_cases h : c
  · rw [if_pos h]; exact h1
  · rw [if_neg h]; exact h2
theorem p29_n : P29 A none := fun q h => by cases h
theorem p29_s {x : Int32} {σ : MS} (h : σ.2.2 29 = A) : P29 A (some (x, σ)) := fun q e => by cases e; exact h
theorem p29_ob {a : Option (Int32 × MS)} {F : Int32 × MS → Option (Int32 × MS)} (h1 : P29 A a) (h2 : ∀ r : Int32 × MS, r.2.2.2 29 = A → P29 A (F r)) : P29 A (ob a F) := by
  cases a with
  | none => exact p29_n
  | some r => exact h2 r (h1 r rfl)
theorem p29_size : ∀ (k b : Nat) (L : Nat → Int32) (σ : MS), σ.2.2 29 = A → P29 A (x_size k b L σ) := by
  intro k
  induction k with
  | zero => intro b L σ h; rw [x_size]; exact p29_n
  | succ k ih =>
    intro b L σ h
    match b with
    | 0 => rw [x_size]; exact p29_if (ih 1 L σ h) (ih 2 _ σ h)
    | 1 => rw [x_size]; exact p29_if (ih 2 _ σ h) p29_n
    | 2 => rw [x_size]; exact p29_s h
    | b + 3 => rw [x_size]; exact p29_n
theorem p29_valueOf : ∀ (k b : Nat) (L : Nat → Int32) (σ : MS), σ.2.2 29 = A → P29 A (x_valueOf k b L σ) := by
  intro k
  induction k with
  | zero => intro b L σ h; rw [x_valueOf]; exact p29_n
  | succ k ih =>
    intro b L σ h
    match b with
    | 0 => rw [x_valueOf]; exact p29_if (p29_if (p29_if (p29_if (p29_s h) p29_n) p29_n) (ih 1 L σ h)) p29_n
    | 1 => rw [x_valueOf]; exact p29_if (ih 2 L σ h) (p29_if (p29_if (ih 3 _ σ h) p29_n) p29_n)
    | 2 => rw [x_valueOf]; exact p29_if (p29_if (p29_if (ih 3 _ σ h) p29_n) p29_n) p29_n
    | 3 => rw [x_valueOf]; exact p29_s h
    | b + 4 => rw [x_valueOf]; exact p29_n
theorem p29_ar {σ : MS} {a i : Nat} {x : Int32} (ha : 29 ≠ a) (h : σ.2.2 29 = A) : (mAr σ a i x).2.2 29 = A := (mAr_o ha).trans h
theorem p29_bindOne : ∀ (k b : Nat) (L : Nat → Int32) (σ : MS), σ.2.2 29 = A → P29 A (x_bindOne k b L σ) := by
  intro k
  induction k with
  | zero => intro b L σ h; rw [x_bindOne]; exact p29_n
  | succ k ih =>
    intro b L σ h
    match b with
    | 0 => rw [x_bindOne]; exact p29_if (p29_if (p29_if (p29_if (ih 3 L (mAr σ 30 _ _) (p29_ar (by decide) h)) p29_n) p29_n) (ih 1 L σ h)) p29_n
    | 1 => rw [x_bindOne]; exact p29_if (ih 2 L σ h) (p29_if (p29_if (ih 3 L (mAr σ 33 _ _) (p29_ar (by decide) h)) p29_n) p29_n)
    | 2 => rw [x_bindOne]; exact p29_if (p29_if (p29_if (ih 3 L (mAr σ 30 _ _) (p29_ar (by decide) h)) p29_n) p29_n) p29_n
    | 3 => rw [x_bindOne]; exact p29_s h
    | b + 4 => rw [x_bindOne]; exact p29_n
theorem p29_dropIter : ∀ (k b : Nat) (L : Nat → Int32) (σ : MS), σ.2.2 29 = A → P29 A (x_dropIter k b L σ) := by
  intro k
  induction k with
  | zero => intro b L σ h; rw [x_dropIter]; exact p29_n
  | succ k ih =>
    intro b L σ h
    match b with
    | 0 => rw [x_dropIter]; exact p29_if (p29_if (ih 1 L (mAr σ 30 _ _) (p29_ar (by decide) h)) p29_n) p29_n
    | 1 => rw [x_dropIter]; exact p29_if (p29_if (p29_ob (p29_size k 0 _ σ h) (fun r hr => p29_s hr)) p29_n) p29_n
    | b + 2 => rw [x_dropIter]; exact p29_n
theorem p29_closeFor : ∀ (k b : Nat) (L : Nat → Int32) (σ : MS), σ.2.2 29 = A → P29 A (x_closeFor k b L σ) := by
  intro k
  induction k with
  | zero => intro b L σ h; rw [x_closeFor]; exact p29_n
  | succ k ih =>
    intro b L σ h
    match b with
    | 0 => rw [x_closeFor]; exact p29_if (ih 1 _ σ h) p29_n
    | 1 => rw [x_closeFor]; exact p29_if (p29_if (p29_if (ih 2 L σ h) (p29_ob (p29_dropIter k 0 _ σ h) (fun r hr => ih 1 L r.2 hr))) p29_n) p29_n
    | 2 => rw [x_closeFor]; exact p29_if (p29_if (ih 3 L (mAr σ 30 _ _) (p29_ar (by decide) h)) p29_n) p29_n
    | 3 => rw [x_closeFor]; exact p29_if (p29_if (ih 4 _ σ h) p29_n) p29_n
    | 4 => rw [x_closeFor]; exact p29_if (ih 8 L σ h) (p29_if (ih 5 _ σ h) p29_n)
    | 5 => rw [x_closeFor]; exact p29_if (ih 7 L σ h) (p29_ob (p29_valueOf k 0 _ σ h) (fun r hr => p29_ob (p29_size k 0 _ r.2 hr) (fun q hq => ih 6 L (mSc q.2 64 _) hq)))
    | 6 => rw [x_closeFor]; exact p29_ob (p29_bindOne k 0 _ σ h) (fun r hr => p29_if (ih 5 _ r.2 hr) p29_n)
    | 7 => rw [x_closeFor]; exact p29_if (ih 4 _ σ h) p29_n
    | 8 => rw [x_closeFor]; exact p29_s h
    | b + 9 => rw [x_closeFor]; exact p29_n
end P29S
section T59
variable {g1 g2 : Nat → Option (Int32 × MS)} {Q : Int32 × MS → Int32 × MS → Prop} {x y : Int32}
theorem T2_59 (h : T2 g1 g2 Q) : T2 (fun k => o59 x (g1 k)) (fun k => o59 x (g2 k)) (fun r1 r2 => ∃ s1 s2, r1 = (s1.1, mSc s1.2 59 x) ∧ r2 = (s2.1, mSc s2.2 59 x) ∧ Q s1 s2) := by
  obtain ⟨r1, r2, N, a1, a2, b⟩ := h
  refine ⟨(r1.1, mSc r1.2 59 x), (r2.1, mSc r2.2 59 x), N, fun k hk => ?_, fun k hk => ?_, r1, r2, rfl, rfl, b⟩
  · show o59 x (g1 k) = _
    rw [a1 k hk]; rfl
  · show o59 x (g2 k) = _
    rw [a2 k hk]; rfl
theorem T2_p29 {A1 A2 : Nat → Int32} (h1 : ∀ k, P29 A1 (g1 k)) (h2 : ∀ k, P29 A2 (g2 k)) (h : T2 g1 g2 Q) : T2 g1 g2 (fun r1 r2 => Q r1 r2 ∧ r1.2.2.2 29 = A1 ∧ r2.2.2.2 29 = A2) := by
  obtain ⟨r1, r2, N, a1, a2, b⟩ := h
  exact ⟨r1, r2, N, a1, a2, b, h1 N r1 (a1 N (Nat.le_refl _)), h2 N r2 (a2 N (Nat.le_refl _))⟩
end T59
/-- a value that lies above the top is upon the pile -/
theorem mPu_back {τ : MS} {t : Nat} {x y : Int32} (h59 : τ.1 59 = nI (t + 1)) (h29 : τ.2.2 29 t = x) : mPu (mSc τ 59 y) t x = τ := by
  have e1 : upd (upd τ.1 59 y) 59 (nI (t + 1)) = τ.1 := by
    funext i
    by_cases e : i = 59
    · rw [e, upd_same, h59]
    · rw [upd_other e, upd_other e]
  have e2 : (mAr (mSc τ 59 y) 29 t x).2.2 = τ.2.2 := mAr_same (σ := mSc τ 59 y) h29
  show (upd (upd τ.1 59 y) 59 (nI (t + 1)), τ.2.1, (mAr (mSc τ 59 y) 29 t x).2.2) = τ
  rw [e1, e2]
section RET
variable {T : Nat → Nat → Int32} {FN : Nat → Nat → Prop} {lc cn : Nat → Prop} {S : Nat → Nat → Nat → Nat → Prop} {t w XC : Nat} {σ1 σ2 : MS} {x y : Int32} {F0 : List Nat}
/-- all fors of a call are closed while a value lies above the top -/
theorem E_gbCloseV {l2 : Nat} (hl2 : l2 < 50) {N1 N2 : Nat → Int32} (n2 : N1 2 = nI l2) (o2 : N2 2 = nI l2) {Q : Int32 × MS → Int32 × MS → Prop} (hS : Sc1 T FN lc cn σ1) (hS2 : Sc1 T FN lc cn σ2) (h1c : σ1.2.2 30 1 = nI (l2 + 1)) (h66 : σ1.2.2 30 (66 + 3 * l2) = nI F0.length) (hQ : ∀ (τ1 τ2 : MS), EI (t + 1) w XC τ1 τ2 → UT τ1 → UT τ2 → FCt (fun i => i = 2 ∨ i = 3) σ1 τ1 → FCt (fun i => i = 2 ∨ i = 3) σ2 τ2 → τ1.2.2 30 2 = nI F0.length → τ1.2.2 30 3 = nI (suI T F0) → ItS τ1 (suI T F0) → τ1.2.2 29 = σ1.2.2 29 → τ2.2.2 29 = σ2.2.2 29 → T2 (fun k => x_giveBack k 2 N1 (mSc τ1 59 (nI t))) (fun k => x_giveBack k 2 N2 (mSc τ2 59 (nI t))) Q) : ∀ (G : List Nat) (τ1 τ2 : MS), (G ++ F0).length ≤ 1050 → suI T (G ++ F0) ≤ 3100 → (∀ m ∈ G, ∃ kk, ItL T FN lc cn kk (T 5 m)) → EI (t + 1) w XC τ1 τ2 → UT τ1 → UT τ2 → FCt (fun i => i = 2 ∨ i = 3) σ1 τ1 → FCt (fun i => i = 2 ∨ i = 3) σ2 τ2 → τ1.2.2 30 2 = nI (G ++ F0).length → FSk T (τ1.2.2 30) (G ++ F0) → τ1.2.2 30 3 = nI (suI T (G ++ F0)) → ItS τ1 (suI T (G ++ F0)) → τ1.2.2 29 = σ1.2.2 29 → τ2.2.2 29 = σ2.2.2 29 → T2 (fun k => x_giveBack k 1 N1 (mSc τ1 59 (nI t))) (fun k => x_giveBack k 1 N2 (mSc τ2 59 (nI t))) Q := by
  intro G
  have e66 : (64 : Int32) + 3 * nI l2 + 2 = nI (66 + 3 * l2) := by
    rw [show (3 : Int32) * nI l2 = nI (3 * l2) from n_mulN 3 l2, show (64 : Int32) + nI (3 * l2) = nI (64 + 3 * l2) from n_add (p := 64) (by omega), show nI (64 + 3 * l2) + 2 = nI (64 + 3 * l2 + 2) from n_add (q := 2) (by omega)]
    congr 1; omega
  have row : ∀ (τ : MS) a, (mSc τ 59 (nI t)).2.2 a = τ.2.2 a := fun _ _ => rfl
  induction G with
  | nil =>
    intro τ1 τ2 hl hs hG hJ V1 V2 f1 f2 p2 pF p3 pit u1 u2
    have hl : F0.length ≤ 1050 := hl
    have p2 : τ1.2.2 30 2 = nI F0.length := p2
    refine T2_suc (fun k => by rw [x_giveBack]) (fun k => by rw [x_giveBack]) ?_
    refine T2_chk (by decide) (by decide) ?_
    rw [n2, o2, e66]
    refine T2_chk (n_in (by omega) (by omega)) (n_in (by omega) (by omega)) ?_
    rw [show (2 : Int32).toNatClampNeg = 2 from by decide, n_cl (p := 66 + 3 * l2) (by omega), row, row, EI_30 hJ (i := 2) (by unfold Zn; omega) (InA_4 (by omega)), EI_30 hJ (i := 66 + 3 * l2) (by unfold Zn; omega) (InA_cl ((FC_30 f1 (i := 1) (by unfold Zn; omega) (by omega)).trans h1c) (by omega) (by omega)), p2, FC_30 f1 (i := 66 + 3 * l2) (by unfold Zn; omega) (by omega), h66]
    refine T2_ite Iff.rfl (fun _ _ => ?_) (fun z _ => absurd (Int32.le_refl _) z)
    exact hQ τ1 τ2 hJ V1 V2 f1 f2 p2 p3 pit u1 u2
  | cons m G ih =>
    intro τ1 τ2 hl hs hG hJ V1 V2 f1 f2 p2 pF p3 pit u1 u2
    have hl : (G ++ F0).length + 1 ≤ 1050 := hl
    have gl : F0.length ≤ (G ++ F0).length := by rw [List.length_append]; omega
    have p2 : τ1.2.2 30 2 = nI ((G ++ F0).length + 1) := p2
    have hs' : itn T m + suI T (G ++ F0) ≤ 3100 := hs
    refine T2_suc (fun k => by rw [x_giveBack]) (fun k => by rw [x_giveBack]) ?_
    refine T2_chk (by decide) (by decide) ?_
    rw [n2, o2, e66]
    refine T2_chk (n_in (by omega) (by omega)) (n_in (by omega) (by omega)) ?_
    rw [show (2 : Int32).toNatClampNeg = 2 from by decide, n_cl (p := 66 + 3 * l2) (by omega), row, row, EI_30 hJ (i := 2) (by unfold Zn; omega) (InA_4 (by omega)), EI_30 hJ (i := 66 + 3 * l2) (by unfold Zn; omega) (InA_cl ((FC_30 f1 (i := 1) (by unfold Zn; omega) (by omega)).trans h1c) (by omega) (by omega)), p2, FC_30 f1 (i := 66 + 3 * l2) (by unfold Zn; omega) (by omega), h66]
    refine T2_ite Iff.rfl (fun z _ => ?_) (fun _ _ => ?_)
    · have := (n_le (by omega) (by omega)).mp z
      omega
    obtain ⟨kk, hL⟩ := hG m (List.mem_cons_self ..)
    have cl := T2_59 (x := nI t) (T2_p29 (fun k => p29_closeFor k 0 (fun _ => 0) τ1 u1) (fun k => p29_closeFor k 0 (fun _ => 0) τ2 u2) (E_closeFor (m := m) (F := G ++ F0) (q := itn T m + suI T (G ++ F0)) (L1 := fun _ => 0) (L2 := fun _ => 0) (Sc1_fc hS f1 (fun i hi => by unfold Ict; omega)) hJ V1 V2 hl p2 pF p3 (by omega) hL))
    have q1 : (fun k => x_closeFor k 0 (fun _ => 0) (mSc τ1 59 (nI t))) = (fun k => o59 (nI t) (x_closeFor k 0 (fun _ => 0) τ1)) := funext (fun k => c59_closeFor k 0 _ τ1)
    have q2 : (fun k => x_closeFor k 0 (fun _ => 0) (mSc τ2 59 (nI t))) = (fun k => o59 (nI t) (x_closeFor k 0 (fun _ => 0) τ2)) := funext (fun k => c59_closeFor k 0 _ τ2)
    rw [← q1, ← q2] at cl
    refine T2_ob cl (fun r1 r2 hr => ?_)
    obtain ⟨s1, s2, e1, e2, ⟨c1, c2, c3, c4, c5, c6, c7, c8⟩, u1', u2'⟩ := hr
    rw [e1, e2]
    exact ih s1.2 s2.2 (by omega) (by omega) (fun m hm => hG m (List.mem_cons_of_mem _ hm)) c1 c2 c3 (FC_tr f1 c4) (FC_tr f2 c5) c6 (FSk_c (by omega) (fun i h1 h2 => FC_30 c4 (by unfold Zn; omega) (by omega)) pF.2) c7 (c8 (ItS_mo pit (show suI T (G ++ F0) ≤ itn T m + suI T (G ++ F0) by omega))) u1' u2'
end RET
section GVA
variable {T : Nat → Nat → Int32} {FN : Nat → Nat → Prop} {t w XC pr np ns n0 l2 un0 : Nat} {F0 G : List Nat} {σ1 σ2 : MS} {x y : Int32}
/-- a call gives back a value that lies above the top -/
theorem E_giveBackV (hXC : XC ≤ 402000) (ht : t + 9 + KBn T ≤ w + 17000) (hB : Bs T FN σ1) (hB' : Bs T FN σ2) (hI : EI (t + 1) w XC σ1 σ2) (U1 : UT σ1) (U2 : UT σ2) (hl : l2 < 50) (hc : σ1.2.2 30 1 = nI (l2 + 1)) (h64 : σ1.2.2 30 (64 + 3 * l2) = nI n0) (h65 : σ1.2.2 30 (65 + 3 * l2) = nI pr) (h66 : σ1.2.2 30 (66 + 3 * l2) = nI F0.length) (hn0 : (1 ≤ n0 ∧ n0 < LNo T % 70001)) (hpr : pr < CNo T % 42) (hnp : np ≤ 8) (hns : ns ≤ 60) (t18 : T 18 pr = nI np) (t21 : T 21 (1 + pr) = nI ns) (t20 : ∀ s, ns ≤ s → s < 60 → T 20 (60 * (1 + pr) + s) = 0) (hlen : (G ++ F0).length ≤ 1050) (hsum : suI T (G ++ F0) ≤ 3100) (hG : ∀ m ∈ G, ∃ kk, ItL T FN (lcU (1 + pr) T) (cnU (1 + pr) T) kk (T 5 m)) (h2 : σ1.2.2 30 2 = nI (G ++ F0).length) (hF : FSk T (σ1.2.2 30) (G ++ F0)) (h3 : σ1.2.2 30 3 = nI (suI T (G ++ F0))) (hIt : ItS σ1 (suI T (G ++ F0))) (hL0 : LvU (σ1.2.2 30) l2 un0) (hA : ArL T FN (lcU un0 T) (cnU un0 T) pr np 0 (T 6 n0)) (h5 : T 5 n0 = -1 ∨ TgN T FN (lcU un0 T) (cnU un0 T) (T 5 n0)) {L1 L2 : Nat → Int32} (d1 : L1 1 = σ1.2.2 29 t) (d2 : L2 1 = σ2.2.2 29 t) : T2 (fun k => x_giveBack k 0 L1 (mSc σ1 59 (nI t))) (fun k => x_giveBack k 0 L2 (mSc σ2 59 (nI t))) (fun r1 r2 => r1.1 = r2.1 ∧ FCt (fun i => i = 1 ∨ i = 2 ∨ i = 3) σ1 r1.2 ∧ FCt (fun i => i = 1 ∨ i = 2 ∨ i = 3) σ2 r2.2 ∧ UT r1.2 ∧ UT r2.2 ∧ ((r1.1 = nI n0 ∧ ∃ w', w ≤ w' ∧ EI t w' XC r1.2 r2.2 ∧ r1.2.2.2 30 1 = nI l2 ∧ r1.2.2.2 30 2 = nI F0.length ∧ r1.2.2.2 30 3 = nI (suI T F0) ∧ ItS r1.2 (suI T F0)) ∨ (r1.1 = -1 ∧ EZ t 179400 r1.2 ∧ EZ t 179400 r2.2))) := by
  have w6 := EI_w hI
  have lvc : LvU (σ1.2.2 30) (l2 + 1) (1 + pr) := Or.inr ⟨pr, by omega, rfl, by omega, by rw [Nat.add_sub_cancel]; exact h65⟩
  have hS := Sc1_lv hB hc (by omega) lvc
  have hS2 := Sc1_ei hS hI
  have s3 : suI T F0 ≤ 3100 := Nat.le_trans (suI_app (G := G)) hsum
  have k1 : σ2.2.2 30 1 = nI (l2 + 1) := (EI_30 hI (by unfold Zn; omega) (InA_4 (by omega))).trans hc
  have k64 : σ2.2.2 30 (64 + 3 * l2) = nI n0 := (EI_30 hI (by unfold Zn; omega) (InA_cl hc (by omega) (by omega))).trans h64
  have k65 : σ2.2.2 30 (65 + 3 * l2) = nI pr := (EI_30 hI (by unfold Zn; omega) (InA_cl hc (by omega) (by omega))).trans h65
  have e64 : (64 : Int32) + 3 * nI l2 = nI (64 + 3 * l2) := by
    rw [show (3 : Int32) * nI l2 = nI (3 * l2) from n_mulN 3 l2]; exact n_add (p := 64) (by omega)
  have e65 : nI (64 + 3 * l2) + 1 = nI (65 + 3 * l2) := by rw [n_add1]; congr 1; omega
  have row : ∀ (τ : MS) a, (mSc τ 59 (nI t)).2.2 a = τ.2.2 a := fun _ _ => rfl
  refine T2_suc (fun k => by rw [x_giveBack]) (fun k => by rw [x_giveBack]) ?_
  refine T2_chk (by decide) (by decide) ?_
  rw [show (1 : Int32).toNatClampNeg = 1 from by decide, row, row, hc, k1, n_sub1 (by omega), e64, e65]
  refine T2_chk (n_in (by omega) (by omega)) (n_in (by omega) (by omega)) ?_
  refine T2_chk (n_in (by omega) (by omega)) (n_in (by omega) (by omega)) ?_
  rw [n_cl (p := 64 + 3 * l2) (by omega), n_cl (p := 65 + 3 * l2) (by omega), h64, k64, h65, k65]
  refine E_gbCloseV (t := t) (l2 := l2) hl rfl rfl hS hS2 hc h66 (fun τ1 τ2 hJ V1 V2 f1 f2 p2 p3 pit u1 u2 => ?_) G σ1 σ2 hlen hsum hG hI U1 U2 FC_rf FC_rf h2 hF h3 hIt rfl rfl
  have B1 := Bs_fc hB f1
  have cc : τ1.2.2 30 1 = nI (l2 + 1) := by rw [FC_30 f1 (by unfold Zn; omega) (by omega)]; exact hc
  have c65 : τ1.2.2 30 (65 + 3 * l2) = nI pr := by rw [FC_30 f1 (by unfold Zn; omega) (by omega)]; exact h65
  obtain ⟨j1, j2⟩ := EI_59 hJ
  have b1 := mPu_back (τ := τ1) (t := t) (x := σ1.2.2 29 t) (y := nI t) j1 (by rw [u1])
  have b2 := mPu_back (τ := τ2) (t := t) (x := σ2.2.2 29 t) (y := nI t) j2 (by rw [u2])
  have hJ' : EI (t + 1) w XC (mPu (mSc τ1 59 (nI t)) t (σ1.2.2 29 t)) (mPu (mSc τ2 59 (nI t)) t (σ2.2.2 29 t)) := by rw [b1, b2]; exact hJ
  have fs : ∀ τ : MS, FSt τ (mSc τ 59 (nI t)) := fun τ => FS_sc (by omega)
  refine E_gbFrame (x := σ1.2.2 29 t) (y := σ2.2.2 29 t) (np := np) (ns := ns) (n0 := n0) (pr := pr) (by omega) (EI_dn (by omega) hJ) hJ' (UT_c V1 rfl rfl rfl rfl) (UT_c V2 rfl rfl rfl rfl) hl cc c65 (by omega) (STb_30 B1.1 hpr) (by omega) hns (by rw [row, B1.2.1 18 _ (by omega) (by omega) (by omega)]; exact t18) (by rw [row, B1.2.1 21 _ (by omega) (by omega) (by omega)]; exact t21) (fun s h1 h2 => by show kC τ1 _ = 0; rw [B1.2.2.2.2.2.2]; exact t20 s h1 h2) (by exact d1) (by exact d2) rfl rfl rfl rfl rfl rfl (fun ρ1 ρ2 M1 M2 q3 p3' q4 p4 q5 p5 hK W1 W2 g1 g2 a1 it => ?_)
  have g1 := FC_tr (FC_fs (I := fun i => i = 1) (fs τ1)) g1
  have g2 := FC_tr (FC_fs (I := fun i => i = 1) (fs τ2)) g2
  have B2 := Bs_fc B1 g1
  have B3 := Bs_fc (Bs_fc hB' f2) g2
  have lv0 : LvU (ρ1.2.2 30) l2 un0 := by
    rcases hL0 with z | ⟨p, z1, z2, z3, z4⟩
    · exact Or.inl z
    · refine Or.inr ⟨p, z1, z2, z3, ?_⟩
      rw [FC_30 g1 (by unfold Zn; omega) (by omega), FC_30 f1 (by unfold Zn; omega) (by omega)]; exact z4
  have S0 := Sc1_lv B2 a1 (by omega) lv0
  refine T2_mono (E_gbWrites hXC ht hn0 hpr hnp S0 (fun a i h => ⟨B2.2.1 a i (by omega) (by omega) (by omega), B3.2.1 a i (by omega) (by omega) (by omega)⟩) hK W1 W2 t18 hA h5 q3 p3' q4 p4 q5 p5) (fun r1 r2 hr => ?_)
  obtain ⟨c1, c2, c3, c4, c5, c6⟩ := hr
  have F1 : FCt (fun i => i = 1 ∨ i = 2 ∨ i = 3) σ1 r1.2 := FC_tr (FC_mo (fun i hi => Or.inr hi) f1) (FC_tr (FC_mo (fun i hi => Or.inl hi) g1) (FC_fs c2))
  have F2 : FCt (fun i => i = 1 ∨ i = 2 ∨ i = 3) σ2 r2.2 := FC_tr (FC_mo (fun i hi => Or.inr hi) f2) (FC_tr (FC_mo (fun i hi => Or.inl hi) g2) (FC_fs c3))
  refine ⟨c1, F1, F2, c4, c5, c6.imp (fun ⟨z, w', hw, hE⟩ => ⟨z, w', hw, hE, ?_, ?_, ?_, ?_⟩) id⟩
  · rw [c2.2.1 30 1 (by unfold AlR; omega) (by unfold Zn; omega) (by omega)]; exact a1
  · rw [c2.2.1 30 2 (by unfold AlR; omega) (by unfold Zn; omega) (by omega), FC_30 g1 (by unfold Zn; omega) (by omega)]; exact p2
  · rw [c2.2.1 30 3 (by unfold AlR; omega) (by unfold Zn; omega) (by omega), FC_30 g1 (by unfold Zn; omega) (by omega)]; exact p3
  · have z3 : ρ1.2.2 30 3 = nI (suI T F0) := by rw [FC_30 g1 (by unfold Zn; omega) (by omega)]; exact p3
    exact ItS_fs c2 z3 s3 (Nat.le_refl _) (it _ s3 pit)
end GVA
section RTN
variable {T : Nat → Nat → Int32} {FN : Nat → Nat → Prop} {S : Nat → Nat → Nat → Nat → Prop} {t w XC : Nat} {τ1 τ2 σ1 σ2 : MS}
theorem FSk_ap {A : Nat → Int32} {F0 : List Nat} : ∀ {G : List Nat}, FSk T A (G ++ F0) → FSk T A F0
  | [], h => h
  | _ :: G, h => FSk_ap (G := G) h.2
/-- the call that a statement of a procedure lies in -/
theorem Pos_ca (hW : SWf T FN S) {c un d v n : Nat} {F : List Nat} {ρ : MS} (hP : Pos T S c un d v n F ρ) (hun : ¬ un = 0) : ∃ j pr un0 d0 v0 n0 F0 np ns, c = j + 1 ∧ un = 1 + pr ∧ pr < CNo T % 42 ∧ (1 ≤ n0 ∧ n0 < LNo T % 70001) ∧ np ≤ 8 ∧ ns ≤ 60 ∧ T 18 pr = nI np ∧ T 21 (1 + pr) = nI ns ∧ (∀ s, ns ≤ s → s < 60 → T 20 (60 * (1 + pr) + s) = 0) ∧ ArL T FN (lcU un0 T) (cnU un0 T) pr np 0 (T 6 n0) ∧ (T 5 n0 = -1 ∨ TgN T FN (lcU un0 T) (cnU un0 T) (T 5 n0)) ∧ F = fls T d n ++ F0 ∧ (∀ m ∈ fls T d n, ∃ kk, ItL T FN (lcU (1 + pr) T) (cnU (1 + pr) T) kk (T 5 m)) ∧ ρ.2.2 30 (64 + 3 * j) = nI n0 ∧ ρ.2.2 30 (65 + 3 * j) = nI pr ∧ ρ.2.2 30 (66 + 3 * j) = nI F0.length ∧ LVs T S (ρ.2.2 30) j un0 d0 v0 n0 F0 := by
  obtain ⟨h1, h2, hLV, h4, _⟩ := id hP
  cases c with
  | zero => exact absurd hLV.1 hun
  | succ j =>
    obtain ⟨hS, pr, un0, d0, v0, n0, F0, g1, g2, g3, g4, g5, g6, g7, g8, g9⟩ := hLV
    obtain ⟨⟨a1, _, a3, _⟩, _, _, _, _, h45⟩ := hW un0 d0 v0 n0 (LVs_S g9)
    obtain ⟨pr', np, ns, y1, y2, y3, y4, y5, y6, y7, y8, y9⟩ := h45 g6
    have epr : pr' = pr := (n_eq (by omega) (by omega)).mp (y2.symm.trans g7)
    subst epr
    subst g1
    exact ⟨j, pr', un0, d0, v0, n0, F0, np, ns, rfl, rfl, y1, a1, y4, y6, y3, y5, y7, y8, y9, g8, (fls_b hW hS).2.2, g3, g4, g5, g9⟩
/-- return -/
theorem E_returns (hW : SWf T FN S) (hXC : XC ≤ 401000) (ht : t + 9 + KBn T ≤ w + 17000) {c un d v n w' : Nat} {F : List Nat} (hw : w ≤ w') (hM : Mid T FN S t w' XC σ1 σ2 τ1 τ2) (hP : Pos T S c un d v n F τ1) (hun : ¬ un = 0) (h5 : T 5 n = -1 ∨ Wx0 T FN (lcU un T) (T 5 n)) {L1 L2 : Nat → Int32} (d1 : L1 1 = nI n) (d2 : L2 1 = nI n) : T2 (fun k => x_returns k 0 L1 τ1) (fun k => x_returns k 0 L2 τ2) (fun r1 r2 => OuQ T FN S t w XC σ1 σ2 r1.2 r2.2) := by
  obtain ⟨hE, U1, U2, B1, B2, kp⟩ := id hM
  have w6 := EI_w hE
  obtain ⟨_, _, ⟨n7, _, _⟩, pb3, pb4⟩ := Pos_b hW hP
  have hSc := Pos_sc B1 hP
  have fin4 : ∀ (s1 s2 : MS) (K1 K2 : Nat → Int32), OuQ T FN S t w XC σ1 σ2 s1 s2 → T2 (fun k => x_returns k 4 K1 s1) (fun k => x_returns k 4 K2 s2) (fun r1 r2 => OuQ T FN S t w XC σ1 σ2 r1.2 r2.2) := fun s1 s2 K1 K2 h => T2_suc (fun k => by rw [x_returns]) (fun k => by rw [x_returns]) (T2_some h)
  -- behind giveBack
  have back : ∀ (t0 w2 j un0 d0 v0 n0 : Nat) (F0 : List Nat) (ρ1 ρ2 : MS) (r1 r2 : Int32 × MS) (K1 K2 : Nat → Int32), w ≤ w2 → Mid T FN S t0 w2 XC σ1 σ2 ρ1 ρ2 → j < 50 → LVs T S (ρ1.2.2 30) j un0 d0 v0 n0 F0 → FSk T (ρ1.2.2 30) F0 → F0.length ≤ 1050 → (r1.1 = r2.1 ∧ FCt (fun i => i = 1 ∨ i = 2 ∨ i = 3) ρ1 r1.2 ∧ FCt (fun i => i = 1 ∨ i = 2 ∨ i = 3) ρ2 r2.2 ∧ UT r1.2 ∧ UT r2.2 ∧ ((r1.1 = nI n0 ∧ ∃ w', w2 ≤ w' ∧ EI t w' XC r1.2 r2.2 ∧ r1.2.2.2 30 1 = nI j ∧ r1.2.2.2 30 2 = nI F0.length ∧ r1.2.2.2 30 3 = nI (suI T F0) ∧ ItS r1.2 (suI T F0)) ∨ (r1.1 = -1 ∧ EZ t 179400 r1.2 ∧ EZ t 179400 r2.2))) → T2 (fun k => ob (x_goOnBehind k 0 (upd (fun _ => 0) 1 r1.1) r1.2) (fun r3 => x_returns k 4 K1 r3.2)) (fun k => ob (x_goOnBehind k 0 (upd (fun _ => 0) 1 r2.1) r2.2) (fun r3 => x_returns k 4 K2 r3.2)) (fun r1 r2 => OuQ T FN S t w XC σ1 σ2 r1.2 r2.2) := by
    intro t0 w2 j un0 d0 v0 n0 F0 ρ1 ρ2 r1 r2 K1 K2 hw2 hK hj hL0 hF0 hl0 hp
    obtain ⟨c1, c2, c3, c4, c5, c6⟩ := hp
    rcases c6 with ⟨z1, w3, hw3, hJ, k1, k2, k3, k4⟩ | ⟨z1, z2, z3⟩
    · refine T2_ob (E_goOnBehind hW hXC ht (Nat.le_trans hw2 hw3) (Mid_fc hK c2 c3 hJ c4 c5) ⟨by omega, k1, LVs_c (by omega) (fun i h1 h2 => FC_30 c2 (by unfold Zn; omega) (by omega)) hL0, k2, FSk_c hl0 (fun i h1 h2 => FC_30 c2 (by unfold Zn; omega) (by omega)) hF0, k3, k4⟩ (by exact z1) (by exact c1.symm.trans z1)) (fun s1 s2 hs => fin4 _ _ _ _ hs)
    · refine T2_ob (T2_t (s_gobM (by exact z1)) (s_gobM (by exact c1.symm.trans z1))) (fun s1 s2 hs => ?_)
      rw [hs.1, hs.2]
      exact fin4 _ _ _ _ (OuQ_z hK c2 c3 c4 c5 (Nat.le_refl _) z2 z3)
  refine T2_suc (fun k => by rw [x_returns]) (fun k => by rw [x_returns]) ?_
  rw [d1, d2]
  refine T2_chk (n_in (by omega) (by omega)) (n_in (by omega) (by omega)) ?_
  rw [n_cl (p := n) (by omega), B1.1.1 5 _ (by omega) (by omega) (by omega), B2.1.1 5 _ (by omega) (by omega) (by omega)]
  refine T2_ite Iff.rfl (fun z5 _ => ?_) (fun z5 _ => ?_)
  · -- no value
    obtain ⟨e1, e2⟩ := EI_e hE
    obtain ⟨j, pr, un0, d0, v0, n0, F0, np, ns, ec, eun, a1, a2, a3, a4, a5, a6, a7, a8, a9, eF, a10, a11, a12, a13, a14⟩ := Pos_ca hW hP hun
    obtain ⟨hc5, hc, _, h2, hF, h3, hIt⟩ := id hP
    subst ec
    rw [eF] at h2 hF h3 hIt pb3 pb4
    have fl : F0.length ≤ (fls T d n ++ F0).length := by rw [List.length_append]; omega
    refine T2_suc (fun k => by rw [x_returns]) (fun k => by rw [x_returns]) ?_
    rw [e1, e2]
    refine T2_ite Iff.rfl (fun _ _ => ?_) (fun z _ => absurd rfl z)
    refine T2_ob (E_giveBack (x := 0) (y := 0) (G := fls T d n) (F0 := F0) (l2 := j) (n0 := n0) (un0 := un0) (by omega) (by omega) B1 B2 hE U1 U2 (by omega) hc a11 a12 a13 a2 a1 a3 a4 a5 a6 a7 (by omega) (by omega) a10 h2 hF h3 hIt (LVs_u a14) a8 a9 (fun ρ1 ρ2 hJ _ _ => EI_pu0 (by omega) hJ) rfl rfl) (fun r1 r2 hr => ?_)
    exact back t w' j un0 d0 v0 n0 F0 τ1 τ2 r1 r2 _ _ hw hM (by omega) a14 (FSk_ap hF) (by omega) hr
  · refine T2_chk (n_in3 (by omega) (by omega)) (n_in3 (by omega) (by omega)) ?_
    refine T2_ob (E_eval (by omega) (by omega) hSc.1 (h5.resolve_left z5) hE rfl rfl) (fun r1 r2 hr => ?_)
    obtain ⟨f1, f2, hr⟩ := hr
    have V1 := UT_fe f1 U1
    have V2 := UT_fe f2 U2
    rcases hr with ⟨w2, hw2, hJ⟩ | ⟨z1, z2⟩
    · obtain ⟨e1, e2⟩ := EI_e hJ
      obtain ⟨t1, t2⟩ := EI_59 hJ
      have hK : Mid T FN S (t + 1) w2 XC σ1 σ2 r1.2 r2.2 := Mid_fc (I := fun _ => False) hM (FC_fe f1) (FC_fe f2) hJ V1 V2
      have hP' := Pos_fs hW (FS_fe f1) hP
      obtain ⟨j, pr, un0, d0, v0, n0, F0, np, ns, ec, eun, a1, a2, a3, a4, a5, a6, a7, a8, a9, eF, a10, a11, a12, a13, a14⟩ := Pos_ca hW hP' hun
      obtain ⟨hc5, hc, _, h2, hF, h3, hIt⟩ := id hP'
      subst ec
      rw [eF] at h2 hF h3 hIt pb3 pb4
      have fl : F0.length ≤ (fls T d n ++ F0).length := by rw [List.length_append]; omega
      rw [e1, e2]
      refine T2_ite Iff.rfl (fun _ _ => ?_) (fun z _ => absurd (by decide) z)
      refine T2_suc (fun k => by rw [x_returns]) (fun k => by rw [x_returns]) ?_
      refine T2_ob (T2_t (s_pop t1 (by omega) _) (s_pop t2 (by omega) _)) (fun s1 s2 hs => ?_)
      rw [hs.1, hs.2]
      refine T2_suc (fun k => by rw [x_returns]) (fun k => by rw [x_returns]) ?_
      refine T2_suc (fun k => by rw [x_returns]) (fun k => by rw [x_returns]) ?_
      have x1 : (mSc r1.2 59 (nI t)).1 56 = 0 := e1
      have x2 : (mSc r2.2 59 (nI t)).1 56 = 0 := e2
      rw [x1, x2]
      refine T2_ite Iff.rfl (fun _ _ => ?_) (fun z _ => absurd rfl z)
      refine T2_ob (E_giveBackV (G := fls T d n) (F0 := F0) (l2 := j) (n0 := n0) (un0 := un0) (by omega) (by omega) hK.2.2.2.1 hK.2.2.2.2.1 hJ V1 V2 (by omega) hc a11 a12 a13 a2 a1 a3 a4 a5 a6 a7 (by omega) (by omega) a10 h2 hF h3 hIt (LVs_u a14) a8 a9 rfl rfl) (fun s1 s2 hs => ?_)
      exact back (t + 1) w2 j un0 d0 v0 n0 F0 r1.2 r2.2 s1 s2 _ _ (Nat.le_trans hw hw2) hK (by omega) a14 (FSk_ap hF) (by omega) hs
    · refine T2_ite ⟨fun z => absurd z (EZ_le z1), fun z => absurd z (EZ_le z2)⟩ (fun z _ => absurd z (EZ_le z1)) (fun _ _ => ?_)
      refine T2_suc (fun k => by rw [x_returns]) (fun k => by rw [x_returns]) ?_
      refine T2_suc (fun k => by rw [x_returns]) (fun k => by rw [x_returns]) ?_
      refine T2_ite ⟨fun z => absurd z (EZ_e z1), fun z => absurd z (EZ_e z2)⟩ (fun z _ => absurd z (EZ_e z1)) (fun _ _ => ?_)
      exact fin4 _ _ _ _ (OuQ_z (I := fun _ => False) hM (FC_fe f1) (FC_fe f2) V1 V2 (by omega) z1 z2)
end RTN
end JnS257
section JnS258
/-! Statements on both sides (reference): the frame of a call is laid. -/
section EVZ
variable {T : Nat → Nat → Int32} {FN : Nat → Nat → Prop} {lc : Nat → Prop} {τ : MS} {x : Int32}
/-- with an error nothing is evaluated -/
theorem s_evalZ (hS : STb T FN τ) (hW : Wx0 T FN lc x) (he : ¬ τ.1 56 ≤ 0) (he0 : ¬ τ.1 56 = 0) {L : Nat → Int32} (d : L 1 = x) : Tm (fun k => x_eval k 0 L τ) (fun r => r = (0, τ)) := by
  obtain ⟨O, K, _, _, f, hW⟩ := hW
  cases f with
  | zero => exact hW.elim
  | succ f =>
  have hW : _ := hW
  unfold WN at hW
  rcases hW with ⟨_, h4, n, k, ch, xn, chk, c70, clk, nov, hov, hbeg⟩ | ⟨z, _⟩ | ⟨z, _⟩ | ⟨z, _⟩ | ⟨z, _⟩ | ⟨z, _⟩ | ⟨z, _⟩
  case inr.inl => exact absurd z (by decide)
  case inr.inr.inl => exact absurd z (by decide)
  case inr.inr.inr.inl => exact absurd z (by decide)
  case inr.inr.inr.inr.inl => exact absurd z (by decide)
  case inr.inr.inr.inr.inr.inl => exact absurd z (by decide)
  case inr.inr.inr.inr.inr.inr => exact absurd z (by decide)
  have b4 : ∀ N : Nat → Int32, Tm (fun k => x_GV k 1300 4 4 N τ) (fun r => r = (0, τ)) := fun N => Tm_suc (fun k => e_eval_4 k _ _ _) (Tm_some rfl)
  have b1 : ∀ (i : Nat) (N : Nat → Int32), i ≤ k → N 2 = nI (ch i) → Tm (fun k => x_GV k 1300 4 1 N τ) (fun r => r = (0, τ)) := by
    intro i
    induction i with
    | zero =>
      intro N hi n2
      have h0 := c70 0 (by omega)
      refine Tm_suc (fun k => e_eval_1 k _ _ _) ?_
      rw [n2]
      refine Tm_chk (n_in (by omega) (by omega)) ?_
      rw [n_cl (p := ch 0) (by omega), hS.1 4 _ (by omega) (by omega) (by omega)]
      refine Tm_ob (s_isOver _) (fun r hr => ?_)
      obtain ⟨a1, a2⟩ := hr
      have a2 : r.1 = 0 := (a2.resolve_left (fun z => nov z.1)).2
      rw [a1, a2]
      refine Tm_ite (fun _ => ?_) (fun z => absurd rfl z)
      refine Tm_suc (fun k => e_eval_2 k _ _ _) ?_
      show Tm (fun k => ob (x_GV k 1299 0 0 (upd (fun _ => 0) 1 (N 2)) τ) (fun r1 => x_GV k 1300 4 3 N r1.2)) _
      have bg : Tm (fun k => x_GV k 1299 0 0 (upd (fun _ => 0) 1 (N 2)) τ) (fun r => r = (0, τ)) := by
        refine Tm_suc (fun k => e_begins_0 k _ _ _) ?_
        exact Tm_ite (fun z => absurd z he) (fun _ => Tm_some rfl)
      refine Tm_ob bg (fun s hs => ?_)
      rw [hs]
      refine Tm_suc (fun k => e_eval_3 k _ _ _) ?_
      refine Tm_ite (fun _ => b4 _) (fun _ => ?_)
      exact Tm_ite (fun z => absurd z he0) (fun _ => b4 _)
    | succ i ih =>
      intro N hi n2
      have h0 := c70 (i + 1) (by omega)
      refine Tm_suc (fun k => e_eval_1 k _ _ _) ?_
      rw [n2]
      refine Tm_chk (n_in (by omega) (by omega)) ?_
      rw [n_cl (p := ch (i + 1)) (by omega), hS.1 4 _ (by omega) (by omega) (by omega)]
      refine Tm_ob (s_isOver _) (fun r hr => ?_)
      obtain ⟨a1, a2⟩ := hr
      have ho := (hov (i + 1) (by omega) (by omega)).1
      have a2 : r.1 = 1 := (a2.resolve_right (fun z => z.1 ho)).2
      rw [a1, a2]
      refine Tm_ite (fun z => absurd z (by decide)) (fun _ => ?_)
      refine Tm_chk (n_in3 (by omega) (by omega)) ?_
      rw [hS.1 6 _ (by omega) (by omega) (by omega), (clk i (by omega)).1]
      exact ih _ (by omega) rfl
  refine Tm_suc (fun k => e_eval_0 k _ _ _) ?_
  refine b1 k _ (Nat.le_refl _) ?_
  show L 1 = _
  rw [d, xn, chk]
end EVZ
/-- with an error: om upon the pile -/
theorem s_pushZ {a b : Nat} {τ : MS} (h : EZ a b τ) (hb : b ≤ 184000) (L : Nat → Int32) (d : L 1 = 0) : Tm (fun k => x_push k 0 L τ) (fun r => EZ a (b + 1) r.2 ∧ FE τ r.2) := by
  obtain ⟨g, l, B, h', t', hM, h59, ha, hb', he, hE, hw, hc⟩ := h
  refine Tm_mono (s_push h59 (by omega) L) (fun r hr => ?_)
  rw [hr, d]
  exact ⟨EZ_pu hM h59 ha (by omega) he hE hw hc ⟨0, rfl, Or.inl (by decide)⟩, FE_pu⟩
/-- what a new call counts, slot by slot -/
noncomputable def nwS (σ : MS) (pr np t i : Nat) : Nat := if kC σ (60 * (1 + pr) + i) = 0 then 0 else if i < np then szN (σ.2.2 28) (σ.2.2 29 (t + i)).toNatClampNeg else 1
/-- the frame of a call is laid up to slot i -/
def CaL (c n pr np t fl i : Nat) (σ ρ : MS) : Prop := ρ.1 = σ.1 ∧ ρ.2.1 = σ.2.1 ∧ (∀ a, a ≠ 30 → ρ.2.2 a = σ.2.2 a) ∧ ρ.2.2 30 (64 + 3 * c) = nI n ∧ ρ.2.2 30 (65 + 3 * c) = nI pr ∧ ρ.2.2 30 (66 + 3 * c) = nI fl ∧ (∀ j, j < i → ρ.2.2 30 (214 + 60 * c + j) = if j < np then σ.2.2 29 (t + j) else 0) ∧ ∀ j, ¬ (64 + 3 * c ≤ j ∧ j < 67 + 3 * c) → ¬ (214 + 60 * c ≤ j ∧ j < 214 + 60 * c + i) → ρ.2.2 30 j = σ.2.2 30 j
theorem CaL_1 {c n pr np t fl i : Nat} {σ ρ : MS} {x : Int32} (hc : c < 50) (hi : i < 60) (h : CaL c n pr np t fl i σ ρ) (hx : x = if i < np then σ.2.2 29 (t + i) else 0) : CaL c n pr np t fl (i + 1) σ (mAr ρ 30 (214 + 60 * c + i) x) := by
  obtain ⟨h1, h2, h3, h4, h5, h6, h7, h8⟩ := h
  have o : ∀ j, j ≠ 214 + 60 * c + i → (mAr ρ 30 (214 + 60 * c + i) x).2.2 30 j = ρ.2.2 30 j := fun j hj => by rw [mAr_s, upd_other hj]
  refine ⟨h1, h2, fun a ha => (mAr_o ha).trans (h3 a ha), (o _ (by omega)).trans h4, (o _ (by omega)).trans h5, (o _ (by omega)).trans h6, fun j hj => ?_, fun j a b => (o _ (by omega)).trans (h8 j a (by omega))⟩
  by_cases e : j = i
  · rw [e, mAr_s, upd_same]; exact hx
  · rw [o _ (by omega)]; exact h7 j (by omega)
/-- the frame of a call is laid -/
def CaS (c n pr np t fl add : Nat) (σ ρ : MS) : Prop := (∀ j, j ≠ 59 → j ≠ 64 → ρ.1 j = σ.1 j) ∧ ρ.1 59 = nI t ∧ ρ.1 64 = σ.1 64 + nI add ∧ ρ.2.1 = σ.2.1 ∧ (∀ a, a ≠ 30 → ρ.2.2 a = σ.2.2 a) ∧ ρ.2.2 30 1 = nI (c + 1) ∧ ρ.2.2 30 (64 + 3 * c) = nI n ∧ ρ.2.2 30 (65 + 3 * c) = nI pr ∧ ρ.2.2 30 (66 + 3 * c) = nI fl ∧ (∀ j, j < 60 → ρ.2.2 30 (214 + 60 * c + j) = if j < np then σ.2.2 29 (t + j) else 0) ∧ ∀ j, j ≠ 1 → ¬ (64 + 3 * c ≤ j ∧ j < 67 + 3 * c) → ¬ (214 + 60 * c ≤ j ∧ j < 274 + 60 * c) → ρ.2.2 30 j = σ.2.2 30 j
section CAS
variable {c n pr np t fl add w XC : Nat} {σ ρ σ1 σ2 ρ1 ρ2 : MS}
theorem FC_ca (h : CaS c n pr np t fl add σ ρ) (hc : c < 50) : FCt (fun i => i = 1 ∨ (64 + 3 * c ≤ i ∧ i < 67 + 3 * c)) σ ρ := by
  obtain ⟨h1, h2, h3, h4, h5, h6, h7, h8, h9, h10, h11⟩ := h
  refine ⟨fun j _ _ h3 _ h5 => h1 j h3 h5, fun a i ha hz _ hI => ?_, h5 2 (by decide)⟩
  by_cases e : a = 30
  · subst e
    exact h11 i (fun z => hI ⟨rfl, Or.inl z⟩) (fun z => hI ⟨rfl, Or.inr z⟩) (fun z => hz (by unfold Zn; omega))
  · rw [h5 a e]
/-- slots of the new call -/
theorem pzC_ca (h : CaS c n pr np t fl add σ ρ) (hc : c < 50) (hpr : pr < 41) {j : Nat} (hj : j < 60) : pzC ρ c j = nwS σ pr np t j := by
  obtain ⟨h1, h2, h3, h4, h5, h6, h7, h8, h9, h10, h11⟩ := h
  have e1 : (214 + 60 * c + j - 214) / 60 = c := by omega
  have e2 : (214 + 60 * c + j - 214) % 60 = j := by omega
  have e3 : NUa (kC ρ) (ρ.2.2 30) 0 (214 + 60 * c + j) ↔ kC σ (60 * (1 + pr) + j) = 0 := by
    unfold NUa
    rw [e1, e2, Nat.zero_add, h8, n_cl (p := pr) (by omega), kC_r (h5 20 (by decide)) (h5 21 (by decide)) (h1 30 (by decide) (by decide))]
    constructor
    · rintro (z | z)
      · omega
      · exact z.2.2
    · intro z; exact Or.inr ⟨by omega, by omega, z⟩
  have st : StI (ρ.2.2 30) 0 (0 + (214 + 60 * c + j)) := by
    unfold StI
    rw [show (0 + 1) = 1 from rfl, h6, n_cl (p := c + 1) (by omega)]; omega
  have e4 : CtA (kC ρ) (ρ.2.2 30) 0 (214 + 60 * c + j) ↔ ¬ kC σ (60 * (1 + pr) + j) = 0 := by
    unfold CtA
    rw [e3]
    exact ⟨fun z => z.2, fun z => ⟨st, z⟩⟩
  unfold pzC szP nwS
  by_cases z : kC σ (60 * (1 + pr) + j) = 0
  · rw [if_pos z, if_neg (fun y => (e4.mp y) z)]
  · rw [if_neg z, if_pos (e4.mpr z), Nat.zero_add, h10 j hj, h5 28 (by decide)]
    by_cases y : j < np
    · rw [if_pos y, if_pos y]
    · rw [if_neg y, if_neg y, show (0 : Int32).toNatClampNeg = 0 from by decide]; exact szN_0
/-- the total with the new call -/
theorem StS_ca (h : CaS c n pr np t fl add σ ρ) (hc : c < 50) (hpr : pr < 41) (hc1 : σ.2.2 30 1 = nI c) (hB : StB (σ.2.2 30) 0) : StS ρ = StS σ + suN (nwS σ pr np t) 60 := by
  have pz := fun j (hj : j < 60) => pzC_ca h hc hpr hj
  obtain ⟨h1, h2, h3, h4, h5, h6, h7, h8, h9, h10, h11⟩ := h
  have l := StS_l (σ := ρ) (ρ := mAr ρ 30 1 (nI c)) h6 hc (by rw [mAr_s, upd_same]) (fun j hj => by rw [mAr_s, upd_other hj]) (mAr_o (by decide)) (kC_r (mAr_o (by decide)) (mAr_o (by decide)) rfl)
  have st : StS (mAr ρ 30 1 (nI c)) = StS σ := by
    obtain ⟨c', q, b1, b2, b3, b4⟩ := hB
    have o : ∀ j, ¬ (64 + 3 * c ≤ j ∧ j < 67 + 3 * c) → ¬ (214 + 60 * c ≤ j ∧ j < 274 + 60 * c) → (mAr ρ 30 1 (nI c)).2.2 30 j = σ.2.2 30 j := fun j a b => by
      by_cases e : j = 1
      · rw [e, mAr_s, upd_same, hc1]
      · rw [mAr_s, upd_other e]; exact h11 j e a b
    have r28 : (mAr ρ 30 1 (nI c)).2.2 28 = σ.2.2 28 := (mAr_o (by decide)).trans (h5 28 (by decide))
    have r20 : kC (mAr ρ 30 1 (nI c)) = kC σ := kC_r ((mAr_o (by decide)).trans (h5 20 (by decide))) ((mAr_o (by decide)).trans (h5 21 (by decide))) (h1 30 (by decide) (by decide))
    unfold StS SzS
    rw [r28, r20]
    generalize (mAr ρ 30 1 (nI c)).2.2 30 = A at *
    refine suN_c (fun j hj => ?_)
    have e1 : StI A 0 (0 + j) ↔ StI (σ.2.2 30) 0 (0 + j) := StI_c (o _ (by omega) (by omega)) (o _ (by omega) (by omega))
    have b3 : σ.2.2 30 3 = nI q := b3
    have key : StI (σ.2.2 30) 0 (0 + j) → A j = σ.2.2 30 j ∧ (NUa (kC σ) A 0 j ↔ NUa (kC σ) (σ.2.2 30) 0 j) := fun y => by
      unfold StI at y
      rw [show (0 + 1) = 1 from rfl, show (0 + 3) = 3 from rfl, hc1, b3, n_cl (p := c) (by omega), n_cl (p := q) (by omega)] at y
      refine ⟨o j (by omega) (by omega), ?_⟩
      unfold NUa
      by_cases y2 : 214 ≤ j ∧ j < 3214
      · rw [o (0 + (65 + 3 * ((j - 214) / 60))) (by omega) (by omega)]
      · constructor
        · rintro (z | z)
          · exact Or.inl z
          · exact absurd ⟨z.1, z.2.1⟩ y2
        · rintro (z | z)
          · exact Or.inl z
          · exact absurd ⟨z.1, z.2.1⟩ y2
    unfold szP
    by_cases y : CtA (kC σ) (σ.2.2 30) 0 j
    · have k := key y.1
      have y' : CtA (kC σ) A 0 j := ⟨e1.mpr y.1, fun z => y.2 (k.2.mp z)⟩
      rw [if_pos y, if_pos y', Nat.zero_add, k.1]
    · have y' : ¬ CtA (kC σ) A 0 j := fun z => y ⟨e1.mp z.1, fun q => z.2 ((key (e1.mp z.1)).2.mpr q)⟩
      rw [if_neg y, if_neg y']
  rw [l, suN_c pz, st]
theorem UT_ca (h : CaS c n pr np t fl add σ ρ) (hU : UT σ) (hc : c < 50) (hpr : pr < 41) (hc1 : σ.2.2 30 1 = nI c) (hB : StB (σ.2.2 30) 0) (hadd : add = suN (nwS σ pr np t) 60) (hpf : ∀ i, i < np → ¬ kC σ (60 * (1 + pr) + i) = 0) (hle : ∀ P, σ.1 63 = nI P → P ≤ 20 → StS σ + suN (PtS σ) P + add ≤ 40000) : UT ρ := by
  have sS := StS_ca h hc hpr hc1 hB
  obtain ⟨h1, h2, h3, h4, h5, h6, h7, h8, h9, h10, h11⟩ := id h
  obtain ⟨cc, c1, c2, c3⟩ := UT_cw hU
  have ecc : cc = c := (n_eq (by omega) (by omega)).mp (c1.symm.trans hc1)
  subst ecc
  obtain ⟨c', q, b1, b2, b3, b4⟩ := hB
  have b3 : σ.2.2 30 3 = nI q := b3
  have hU0 := hU
  obtain ⟨u64, P, u63, hP, _, _, ul, _⟩ := hU0
  have l1 := hle P u63 hP
  refine UT_30 hU (fun a h _ => h5 a h) (h1 63 (by decide) (by decide)) (h1 65 (by decide) (by decide)) (h1 30 (by decide) (by decide)) ?_ (Or.inr (fun P' e1 e2 => ?_)) (fun i s nu => ?_) ⟨cc + 1, h6, by omega, fun i hi => ?_⟩
  · rw [h3, u64, n_add (by omega), sS, hadd]
  · have := hle P' e1 e2
    rw [sS, ← hadd]; omega
  · by_cases y : 214 + 60 * cc ≤ i ∧ i < 274 + 60 * cc
    · obtain ⟨j, hj, ej⟩ : ∃ j, j < 60 ∧ i = 214 + 60 * cc + j := ⟨i - (214 + 60 * cc), by omega, by omega⟩
      rw [ej, h10 j hj]
      by_cases z : j < np
      · exfalso
        refine hpf j z ?_
        rw [ej] at nu
        unfold NUa at nu
        rw [show (214 + 60 * cc + j - 214) / 60 = cc by omega, show (214 + 60 * cc + j - 214) % 60 = j by omega, Nat.zero_add, h8, n_cl (p := pr) (by omega)] at nu
        rcases nu with z | z
        · omega
        · exact z.2.2
      · rw [if_neg z]
    · unfold StI at s
      rw [show (0 + 1) = 1 from rfl, show (0 + 3) = 3 from rfl, h6, h11 3 (by omega) (by omega) (by omega), b3, n_cl (p := cc + 1) (by omega), n_cl (p := q) (by omega)] at s
      rw [h11 i (by omega) (by omega) y]
      refine UT_nu hU i ?_ ?_
      · unfold StI
        rw [show (0 + 1) = 1 from rfl, show (0 + 3) = 3 from rfl, hc1, b3, n_cl (p := cc) (by omega), n_cl (p := q) (by omega)]
        omega
      · unfold NUa at nu ⊢
        by_cases y2 : 214 ≤ i ∧ i < 3214
        · rw [h11 (0 + (65 + 3 * ((i - 214) / 60))) (by omega) (by omega) (by omega)] at nu; exact nu
        · rcases nu with z | z
          · exact Or.inl z
          · exact absurd ⟨z.1, z.2.1⟩ y2
  · by_cases e : i = cc
    · rw [e, Nat.zero_add, h8]; exact ⟨pr, rfl, hpr⟩
    · rw [h11 _ (by omega) (by omega) (by omega)]; exact c3 i (by omega)
theorem EI_ca (h1 : CaS c n pr np t fl add σ1 ρ1) (h2 : CaS c n pr np t fl add σ2 ρ2) (hE : EI (t + np) w XC σ1 σ2) (hc : c < 50) (hnp : np ≤ 60) (hc1 : σ1.2.2 30 1 = nI c) : EI t w XC ρ1 ρ2 := by
  have hE0 := hE
  obtain ⟨g1, l1, B1, hh1, X1, g2, l2, B2, hh2, X2, n1, n2, hR, _, _, t1, _⟩ := hE0
  obtain ⟨a1, a2, a3, a4, a5, a6, a7, a8, a9, a10, a11⟩ := h1
  obtain ⟨b1, b2, b3, b4, b5, b6, b7, b8, b9, b10, b11⟩ := h2
  have al := hR.2.2.1
  refine EI_mv hE (fun j hj => a1 j (by omega) (by omega)) (fun j hj => b1 j (by omega) (by omega)) a4 b4 (fun a _ h _ _ _ => a5 a h) (fun a _ h _ _ _ => b5 a h) a2 ?_ (fun j hj hn => ?_) (fun j hj hn => ?_) (fun j hn => ?_) (fun j hj => ?_) (fun a j ha z => ?_)
  · obtain ⟨P, e, y1, y2, y3, y4, ⟨c', q, z1, z2, z3, z4⟩, y6⟩ := n1.2.1
    refine ⟨P, e, (a1 63 (by decide) (by decide)).trans y1, y2, (a1 72 (by decide) (by decide)).trans y3, y4, ⟨c + 1, q, a6, by omega, (a11 3 (by omega) (by omega) (by omega)).trans z3, z4⟩, ?_⟩
    rw [a5 31 (by decide)]; exact y6
  · by_cases e1 : j = 1
    · rw [e1, a6, b6]
    by_cases e2 : 64 + 3 * c ≤ j ∧ j < 67 + 3 * c
    · have : j = 64 + 3 * c ∨ j = 65 + 3 * c ∨ j = 66 + 3 * c := by omega
      rcases this with e | e | e
      · rw [e, a7, b7]
      · rw [e, a8, b8]
      · rw [e, a9, b9]
    have e3 : ¬ (214 + 60 * c ≤ j ∧ j < 274 + 60 * c) := fun z => hj (by unfold Zn; omega)
    rw [a11 j e1 e2 e3, b11 j e1 e2 e3]
    refine hR.2.1 30 j (by unfold AlR; omega) hj (fun y => hn ?_)
    unfold InA at y ⊢
    rcases y with y | y
    · refine Or.inl ⟨rfl, ?_⟩
      have y := y.2
      unfold IaN at y ⊢
      rw [Nat.zero_add, Nat.zero_add, Nat.zero_add] at y ⊢
      rw [hc1, n_cl (p := c) (by omega)] at y
      rw [a6, a11 2 (by omega) (by omega) (by omega), a11 3 (by omega) (by omega) (by omega), n_cl (p := c + 1) (by omega)]
      omega
    · omega
  · rw [a5 31 (by decide), b5 31 (by decide)]; exact hR.2.1 31 j (by unfold AlR; omega) hj (fun y => hn (InA_31 (σ := σ1) (a1 63 (by decide) (by decide)) (a5 31 (by decide)) y))
  · rw [a5 32 (by decide), b5 32 (by decide)]; exact hR.2.1 32 j (by unfold AlR; omega) (by unfold Zn; omega) (fun y => hn (InA_32 (σ := σ1) (a1 63 (by decide) (by decide)) y))
  · by_cases e : j = 64
    · rw [e, a3, b3, al 64 (by unfold AlS; omega)]
    · by_cases e2 : j = 59
      · rw [e2, a2, b2]
      · rw [a1 j e2 e, b1 j e2 e]; exact al j hj
  · rcases z with z | ⟨z, y⟩ | ⟨z, p, hp, y⟩ | z | z
    · refine Or.inl ⟨29, j, by unfold VwR; omega, Or.inl ⟨rfl, by omega⟩, ?_, ?_⟩
      · rw [z.1, a5 29 (by decide)]
      · rw [z.1, b5 29 (by decide)]
    · subst z
      by_cases e3 : 214 + 60 * c ≤ j ∧ j < 274 + 60 * c
      · obtain ⟨i, hi, ei⟩ : ∃ i, i < 60 ∧ j = 214 + 60 * c + i := ⟨j - (214 + 60 * c), by omega, by omega⟩
        rw [ei, a10 i hi, b10 i hi]
        by_cases y2 : i < np
        · rw [if_pos y2, if_pos y2]
          exact Or.inl ⟨29, t + i, by unfold VwR; omega, Or.inl ⟨rfl, by omega⟩, rfl, rfl⟩
        · rw [if_neg y2, if_neg y2]; exact Or.inr ⟨rfl, rfl⟩
      · obtain ⟨P, e, _, _, _, _, ⟨c', q, z1, z2, z3, z4⟩, _⟩ := n1.2.1
        have z3 : σ1.2.2 30 3 = nI q := z3
        unfold StI at y
        rw [show (0 + 1) = 1 from rfl, show (0 + 3) = 3 from rfl, a6, a11 3 (by omega) (by omega) (by omega), z3, n_cl (p := c + 1) (by omega), n_cl (p := q) (by omega)] at y
        refine Or.inl ⟨30, j, by unfold VwR; omega, Or.inr (Or.inl ⟨rfl, ?_⟩), a11 j (by omega) (by omega) e3, b11 j (by omega) (by omega) e3⟩
        unfold StI
        rw [show (0 + 1) = 1 from rfl, show (0 + 3) = 3 from rfl, hc1, z3, n_cl (p := c) (by omega), n_cl (p := q) (by omega)]
        omega
    · subst z
      refine Or.inl ⟨31, j, by unfold VwR; omega, Or.inr (Or.inr (Or.inl ⟨rfl, p, ?_, ?_⟩)), by rw [a5 31 (by decide)], by rw [b5 31 (by decide)]⟩
      · rw [a1 63 (by decide) (by decide)] at hp; exact hp
      · rw [a5 31 (by decide)] at y; exact y
    · refine Or.inl ⟨a, j, by unfold VwR; omega, Or.inr (Or.inr (Or.inr (Or.inl z))), ?_, ?_⟩
      · rw [a5 a (by omega)]
      · rw [b5 a (by omega)]
    · have : a = 34 ∨ a = 36 ∨ a = 37 ∨ a = 38 ∨ a = 40 := by omega
      omega
end CAS
end JnS258
