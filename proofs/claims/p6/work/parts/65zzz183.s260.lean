/-! Statements on both sides (reference): back to a point. -/
/-- the state is brought back, up to i -/
def RbT (p i : Nat) (τ ρ : MS) : Prop := ρ.1 = τ.1 ∧ ρ.2.1 = τ.2.1 ∧ (∀ a, a ≠ 30 → ρ.2.2 a = τ.2.2 a) ∧ (∀ j, j < i → ρ.2.2 30 j = τ.2.2 31 (11514 * p + j)) ∧ ∀ j, i ≤ j → ρ.2.2 30 j = τ.2.2 30 j
theorem Rb_1 {p i : Nat} {τ ρ : MS} (h : RbT p i τ ρ) : RbT p (i + 1) τ (mAr ρ 30 i (τ.2.2 31 (11514 * p + i))) := by
  obtain ⟨h1, h2, h3, h4, h5⟩ := h
  refine ⟨h1, h2, fun a ha => (mAr_o ha).trans (h3 a ha), fun j hj => ?_, fun j hj => ?_⟩
  · rw [mAr_s]
    by_cases e : j = i
    · rw [e, upd_same]
    · rw [upd_other e]; exact h4 j (by omega)
  · rw [mAr_s, upd_other (by omega)]; exact h5 j (by omega)
/-- what going back leaves: the last point is taken -/
def RsT (p : Nat) (τ ρ : MS) : Prop := (∀ j, j ≠ 63 → j ≠ 64 → j ≠ 65 → ρ.1 j = τ.1 j) ∧ ρ.1 63 = nI p ∧ ρ.1 64 = τ.2.2 32 p ∧ ρ.1 65 = τ.1 65 - τ.2.2 32 p ∧ ρ.2.1 = τ.2.1 ∧ (∀ a, a ≠ 30 → ρ.2.2 a = τ.2.2 a) ∧ (∀ j, j < 11514 → ρ.2.2 30 j = τ.2.2 31 (11514 * p + j)) ∧ ∀ j, 11514 ≤ j → ρ.2.2 30 j = τ.2.2 30 j
section RST
variable {T : Nat → Nat → Int32} {FN : Nat → Nat → Prop} {S : Nat → Nat → Nat → Nat → Prop} {p t w XC : Nat} {τ ρ τ1 τ2 ρ1 ρ2 σ1 σ2 : MS}
theorem UT_rs (hM : RsT p τ ρ) (hU : UT τ) (hP : τ.1 63 = nI (p + 1)) (h20 : p < 20) : UT ρ := by
  obtain ⟨a1, a2, a3, a4, a5, a6, a7, a8⟩ := hM
  obtain ⟨h64, P', h63, hP', h65, h32, hl, o1, o2, o3, o4, o5⟩ := hU
  have eP : P' = p + 1 := (n_eq (by omega) (by omega)).mp (h63.symm.trans hP)
  subst eP
  have r28 := a6 28 (by decide)
  have r20 : kC ρ = kC τ := kC_r (a6 20 (by decide)) (a6 21 (by decide)) (a1 30 (by decide) (by decide) (by decide))
  have r31 := a6 31 (by decide)
  have es : suN (PtS τ) (p + 1) = suN (PtS τ) p + PtS τ p := rfl
  have sS : StS ρ = PtS τ p := by
    unfold StS PtS SzS
    rw [r28, r20]
    refine suN_c (fun i hi => (szP_c (b := 11514 * p) (b' := 0) ?_ ?_ (fun j h1 h2 => ?_) (fun _ => ?_)).2)
    · exact a7 1 (by omega)
    · exact a7 3 (by omega)
    · rw [Nat.zero_add]; exact a7 j (by omega)
    · rw [Nat.zero_add, a7 i hi]
  have sP : ∀ q, PtS ρ q = PtS τ q := fun q => by unfold PtS; rw [r28, r20, r31]
  have sP' : ∀ q, suN (PtS ρ) q = suN (PtS τ) q := fun q => suN_c (fun i _ => sP i)
  have nuC : ∀ i, NUa (kC τ) (ρ.2.2 30) 0 i → NUa (kC τ) (τ.2.2 31) (11514 * p) i := fun i n => by
    unfold NUa at n ⊢
    by_cases y : 214 ≤ i ∧ i < 3214
    · rw [Nat.zero_add, a7 (65 + 3 * ((i - 214) / 60)) (by omega)] at n; exact n
    · rcases n with z | z
      · exact Or.inl z
      · exact absurd ⟨z.1, z.2.1⟩ y
  refine ⟨?_, p, a2, by omega, ?_, fun q hq => ?_, ?_, fun i c n => ?_, fun q hq => ?_, ?_, ?_, fun q hq => ?_⟩
  · rw [a3, h32 p (by omega), sS]
  · rw [a4, h65, h32 p (by omega), n_sub (by omega) (by omega), sP', es, Nat.add_sub_cancel]
  · rw [a6 32 (by decide), sP]; exact h32 q (by omega)
  · rw [sS, sP']; omega
  · rw [r20] at n
    have n' := nuC i n
    have hi : i < 11514 := by rcases n with z | z <;> omega
    rw [a7 i hi]
    refine o2 p (by omega) i ?_ n'
    unfold StI at c ⊢
    rw [show (0 + 1) = 1 from rfl, show (0 + 3) = 3 from rfl, a7 1 (by omega), a7 3 (by omega)] at c
    omega
  · rw [r31, r20]; exact o2 q (by omega)
  · rw [a6 33 (by decide)]; exact o3
  · exact CWa_c (o5 p (by omega)).1 (a7 1 (by omega)) (fun j h1 h2 => by rw [Nat.zero_add]; exact a7 j (by omega))
  · rw [r31]; exact ⟨(o5 q (by omega)).1, ItP_c r28 (fun j _ => by rw [r31]) (o5 q (by omega)).2⟩
theorem EI_rs (m1 : RsT p τ1 ρ1) (m2 : RsT p τ2 ρ2) (hE : EI t w XC τ1 τ2) (hP : τ1.1 63 = nI (p + 1)) (h20 : p < 20) : EI t w XC ρ1 ρ2 := by
  have hE0 := hE
  obtain ⟨g1, l1, B1, h1, X1, g2, l2, B2, h2, X2, n1, n2, hR, _, _, t1, _⟩ := hE0
  obtain ⟨a1, a2, a3, a4, a5, a6, a7, a8⟩ := m1
  obtain ⟨b1, b2, b3, b4, b5, b6, b7, b8⟩ := m2
  have al : ∀ j, AlS j → τ1.1 j = τ2.1 j := hR.2.2.1
  have r32 : ∀ j, j < p + 1 → τ1.2.2 32 j = τ2.2.2 32 j := fun j hj => hR.2.1 32 j (by unfold AlR; omega) (by unfold Zn; omega) (fun y => by unfold InA at y; rw [hP, n_cl (p := p + 1) (by omega)] at y; omega)
  obtain ⟨P', e, y1, y2, y3, y4, y5, y6⟩ := n1.2.1
  have eP : P' = p + 1 := (n_eq (by omega) (by omega)).mp (y1.symm.trans hP)
  subst eP
  obtain ⟨c, q, z1, z2, z3, z4⟩ := y6 p (by omega)
  refine EI_mv hE (fun j hj => a1 j (by omega) (by omega) (by omega)) (fun j hj => b1 j (by omega) (by omega) (by omega)) a5 b5 (fun a _ h _ _ _ => a6 a h) (fun a _ h _ _ _ => b6 a h) ((a1 59 (by decide) (by decide) (by decide)).trans t1) ?_ (fun j hj hn => ?_) (fun j hj hn => ?_) (fun j hn => ?_) (fun j hj => ?_) (fun a j ha z => ?_)
  · refine ⟨p, e, a2, by omega, (a1 72 (by decide) (by decide) (by decide)).trans y3, y4, ⟨c, q, (a7 1 (by omega)).trans z1, z2, (a7 3 (by omega)).trans z3, z4⟩, fun q' hq => ?_⟩
    rw [a6 31 (by decide)]; exact y6 q' (by omega)
  · by_cases e : j < 11514
    · rw [a7 j e, b7 j e]
      refine hR.2.1 31 _ (by unfold AlR; omega) (fun z => hj ?_) (fun y => hn ?_)
      · unfold Zn at z ⊢; omega
      · unfold InA at y ⊢
        rw [show (11514 * p + j) / 11514 = p by omega, show (11514 * p + j) % 11514 = j by omega, hP, n_cl (p := p + 1) (by omega)] at y
        rcases y with y | y | y
        · omega
        · rcases y.2 with y | y
          · omega
          · refine Or.inl ⟨rfl, ?_⟩
            unfold IaN at y ⊢
            rw [Nat.zero_add, Nat.zero_add, Nat.zero_add, a7 1 (by omega), a7 2 (by omega), a7 3 (by omega)]
            exact y
        · omega
    · refine absurd ?_ hn
      unfold InA IaN
      rw [Nat.zero_add, Nat.zero_add, Nat.zero_add, a7 3 (by omega), z3, n_cl (p := q) (by omega)]
      omega
  · rw [a6 31 (by decide), b6 31 (by decide)]
    refine hR.2.1 31 j (by unfold AlR; omega) hj (fun y => hn ?_)
    unfold InA at y ⊢
    rw [a2, a6 31 (by decide), n_cl (p := p) (by omega)]
    rw [hP, n_cl (p := p + 1) (by omega)] at y
    rcases y with y | y | y
    · omega
    · refine Or.inr (Or.inl ⟨rfl, ?_⟩)
      rcases y.2 with y | y
      · exact Or.inl (by omega)
      · exact Or.inr y
    · omega
  · rw [a6 32 (by decide), b6 32 (by decide)]
    refine r32 j (Classical.byContradiction (fun c => hn ?_))
    unfold InA
    rw [a2, n_cl (p := p) (by omega)]
    exact Or.inr (Or.inr (Or.inl ⟨rfl, by omega⟩))
  · by_cases e3 : j = 63
    · rw [e3, a2, b2]
    by_cases e4 : j = 64
    · rw [e4, a3, b3, r32 p (by omega)]
    by_cases e5 : j = 65
    · rw [e5, a4, b4, r32 p (by omega), al 65 (by unfold AlS; omega)]
    rw [a1 j e3 e4 e5, b1 j e3 e4 e5]; exact al j hj
  · rcases z with z | ⟨z, y⟩ | ⟨z, q', hq, y⟩ | z | z
    · refine Or.inl ⟨29, j, by unfold VwR; omega, Or.inl ⟨rfl, z.2⟩, ?_, ?_⟩
      · rw [z.1, a6 29 (by decide)]
      · rw [z.1, b6 29 (by decide)]
    · subst z
      unfold StI at y
      rw [show (0 + 1) = 1 from rfl, show (0 + 3) = 3 from rfl, a7 1 (by omega), a7 3 (by omega), z1, z3, n_cl (p := c) (by omega), n_cl (p := q) (by omega)] at y
      have hj : j < 11514 := by omega
      refine Or.inl ⟨31, 11514 * p + j, by unfold VwR; omega, Or.inr (Or.inr (Or.inl ⟨rfl, p, ?_, ?_⟩)), a7 j hj, b7 j hj⟩
      · rw [hP, n_cl (p := p + 1) (by omega)]; omega
      · unfold StI
        rw [z1, z3, n_cl (p := c) (by omega), n_cl (p := q) (by omega)]; omega
    · subst z
      rw [a2, n_cl (p := p) (by omega)] at hq
      rw [a6 31 (by decide)] at y
      refine Or.inl ⟨31, j, by unfold VwR; omega, Or.inr (Or.inr (Or.inl ⟨rfl, q', ?_, y⟩)), by rw [a6 31 (by decide)], by rw [b6 31 (by decide)]⟩
      rw [hP, n_cl (p := p + 1) (by omega)]; omega
    · refine Or.inl ⟨a, j, by unfold VwR; omega, Or.inr (Or.inr (Or.inr (Or.inl z))), ?_, ?_⟩
      · rw [a6 a (by omega)]
      · rw [b6 a (by omega)]
    · have : a = 34 ∨ a = 36 ∨ a = 37 ∨ a = 38 ∨ a = 40 := by omega
      omega
theorem Mid_rs (m1 : RsT p τ1 ρ1) (m2 : RsT p τ2 ρ2) (hM : Mid T FN S t w XC σ1 σ2 τ1 τ2) (hP : τ1.1 63 = nI (p + 1)) (hP2 : τ2.1 63 = nI (p + 1)) (h20 : p < 20) : Mid T FN S t w XC σ1 σ2 ρ1 ρ2 := by
  obtain ⟨hE, U1, U2, B1, B2, kp, pq, o, o1, o2⟩ := hM
  have w6 := EI_w hE
  have bs : ∀ (τ ρ : MS), RsT p τ ρ → Bs T FN τ → Bs T FN ρ := fun τ ρ m b => by
    obtain ⟨a1, a2, a3, a4, a5, a6, a7, a8⟩ := m
    obtain ⟨b0, b2, b3, b4, b5, b6, b7⟩ := b
    exact ⟨STb_b b0 (fun j hj => a1 j (by omega) (by omega) (by omega)) (fun a i q => by rw [a6 a (by omega)]), fun a i h1 h2 h3 => by rw [a6 a (by omega)]; exact b2 a i h1 h2 h3, (a1 67 (by decide) (by decide) (by decide)).trans b3, (a1 97 (by decide) (by decide) (by decide)).trans b4, (a1 72 (by decide) (by decide) (by decide)).trans b5, (a1 69 (by decide) (by decide) (by decide)).trans b6, fun i => (congrFun (kC_r (a6 20 (by decide)) (a6 21 (by decide)) (a1 30 (by decide) (by decide) (by decide))) i).trans (b7 i)⟩
  refine ⟨EI_rs m1 m2 hE hP h20, UT_rs m1 U1 hP h20, UT_rs m2 U2 hP2 h20, bs _ _ m1 B1, bs _ _ m2 B2, fun j hj => ⟨(m1.1 j (by omega) (by omega) (by omega)).trans (kp j hj).1, (m2.1 j (by omega) (by omega) (by omega)).trans (kp j hj).2⟩, fun q hq => ?_, o, (m1.1 106 (by decide) (by decide) (by decide)).trans o1, o2⟩
  rw [m1.2.1, n_cl (p := p) (by omega)] at hq
  have r31 := m1.2.2.2.2.2.1 31 (by decide)
  rw [r31]
  exact pq q (by rw [hP, n_cl (p := p + 1) (by omega)]; omega)
/-- the place of the point -/
theorem Pos_rs (hW : SWf T FN S) (m : RsT p τ ρ) (hU : UT τ) (pq : PtQ T S τ) (hP : τ.1 63 = nI (p + 1)) (h20 : p < 20) : ∃ c un d v n F, Pos T S c un d v n F ρ ∧ ρ.2.2 30 0 = nI n ∧ (T 4 n = 44 ∨ T 4 n = 46) := by
  obtain ⟨a1, a2, a3, a4, a5, a6, a7, a8⟩ := m
  obtain ⟨c, un, d, v, n, F, h1, h2, h3⟩ := pq p (by rw [hP, n_cl (p := p + 1) (by omega)]; omega)
  obtain ⟨g1, g2, g3, g4, g5, g6, g7⟩ := PlA_c (A' := ρ.2.2 30) h1 (fun i hi => a7 i (by omega))
  obtain ⟨h64, P', h63, hP', h65, h32, hl, o1, o2, o3, o4, o5⟩ := hU
  have eP : P' = p + 1 := (n_eq (by omega) (by omega)).mp (h63.symm.trans hP)
  subst eP
  obtain ⟨q, q1, q2, q3⟩ := (o5 p (by omega)).2
  refine ⟨c, un, d, v, n, F, ⟨g1, g2, g3, g4, g5, g6, fun i hi => ?_⟩, (a7 0 (by omega)).trans h2, h3⟩
  have r28 := a6 28 (by decide)
  have x3 : τ.2.2 31 (11514 * p + 3) = nI (suI T F) := h1.2.2.2.2.2.1
  have bd := (LVs_b hW h1.2.2.1).2
  have vb := (hW un d v n (LVs_S h1.2.2.1)).1
  have cb := h1.1
  have eq : q = suI T F := (n_eq (by omega) (by omega)).mp (q1.symm.trans x3)
  have qi := q3 i (by omega)
  have e : szV ρ 30 (5314 + i) = szV τ 31 (11514 * p + (5314 + i)) := by unfold szV; rw [r28, a7 (5314 + i) (by omega)]
  rw [e, a7 (8414 + i) (by omega)]; exact qi
/-- row 30 is brought back -/
theorem E_bring (hP : τ1.1 63 = nI p) (hP2 : τ2.1 63 = nI p) (h20 : p < 20) {Q : Int32 × MS → Int32 × MS → Prop} (hQ : ∀ (ρ1 ρ2 : MS) (N1 N2 : Nat → Int32), RbT p 11514 τ1 ρ1 → RbT p 11514 τ2 ρ2 → T2 (fun k => x_backTrack k 7 N1 (mSc ρ1 64 (τ1.2.2 32 p))) (fun k => x_backTrack k 7 N2 (mSc ρ2 64 (τ2.2.2 32 p))) Q) : ∀ (d i : Nat) (ρ1 ρ2 : MS) (N1 N2 : Nat → Int32), d + i = 11514 → RbT p i τ1 ρ1 → RbT p i τ2 ρ2 → N1 1 = nI i → N2 1 = nI i → T2 (fun k => x_backTrack k 4 N1 ρ1) (fun k => x_backTrack k 4 N2 ρ2) Q := by
  intro d
  induction d with
  | zero =>
    intro i ρ1 ρ2 N1 N2 hd hC hD n2 o2
    have ei : i = 11514 := by omega
    subst ei
    obtain ⟨h1, h2, h3, h4, h5⟩ := id hC
    obtain ⟨k1, k2, k3, k4, k5⟩ := id hD
    refine T2_suc (fun k => by rw [x_backTrack]) (fun k => by rw [x_backTrack]) ?_
    rw [n2, o2]
    refine T2_ite Iff.rfl (fun _ _ => ?_) (fun z _ => absurd ((n_le (p := 11514) (q := 11514) (by decide) (by decide)).mpr (Nat.le_refl _)) z)
    refine T2_suc (fun k => by rw [x_backTrack]) (fun k => by rw [x_backTrack]) ?_
    rw [show ρ1.1 63 = nI p from by rw [h1]; exact hP, show ρ2.1 63 = nI p from by rw [k1]; exact hP2]
    refine T2_chk (n_in (by omega) (by omega)) (n_in (by omega) (by omega)) ?_
    rw [n_cl (p := p) (by omega), h3 32 (by decide), k3 32 (by decide)]
    exact hQ ρ1 ρ2 _ _ hC hD
  | succ d ih =>
    intro i ρ1 ρ2 N1 N2 hd hC hD n2 o2
    obtain ⟨h1, h2, h3, h4, h5⟩ := id hC
    obtain ⟨k1, k2, k3, k4, k5⟩ := id hD
    refine T2_suc (fun k => by rw [x_backTrack]) (fun k => by rw [x_backTrack]) ?_
    rw [n2, o2]
    refine T2_ite Iff.rfl (fun z _ => ?_) (fun _ _ => ?_)
    · have := (n_le (p := 11514) (by decide) (by omega)).mp z
      omega
    rw [show ρ1.1 63 = nI p from by rw [h1]; exact hP, show ρ2.1 63 = nI p from by rw [k1]; exact hP2, show (11514 : Int32) * nI p = nI (11514 * p) from n_mulN 11514 p, n_add (p := 11514 * p) (by omega)]
    refine T2_chk (n_in (by omega) (by omega)) (n_in (by omega) (by omega)) ?_
    refine T2_chk (n_in (by omega) (by omega)) (n_in (by omega) (by omega)) ?_
    rw [n_cl (p := i) (by omega), n_cl (p := 11514 * p + i) (by omega), h3 31 (by decide), k3 31 (by decide)]
    refine T2_suc (fun k => by rw [x_backTrack]) (fun k => by rw [x_backTrack]) ?_
    rw [n2, o2, n_add1]
    exact ih (i + 1) (mAr ρ1 30 i (τ1.2.2 31 (11514 * p + i))) (mAr ρ2 30 i (τ2.2.2 31 (11514 * p + i))) _ _ (by omega) (Rb_1 hC) (Rb_1 hD) rfl rfl
end RST
/-- a name is given a truth: the statement is passed -/
theorem VC_tr {g1 g2 : Nat → Prop} {H1 H2 : Nat → Int32} {c : Nat} (hc : c < 3) : VC g1 g2 H1 H2 (nI c) (nI c) := ⟨c, c, rfl, Or.inl hc, rfl, Or.inl hc, EVb_0 hc, by omega, by omega⟩
section BTK
variable {T : Nat → Nat → Int32} {FN : Nat → Nat → Prop} {S : Nat → Nat → Nat → Nat → Prop} {t w XC : Nat} {τ1 τ2 σ1 σ2 : MS}
theorem E_asgP (hW : SWf T FN S) (hXC : XC ≤ 401000) (ht : t + 9 + KBn T ≤ w + 17000) {c un d v n a s w' e : Nat} {F : List Nat} (he : e < 3) (hw : w ≤ w') (hM : Mid T FN S t w' XC σ1 σ2 τ1 τ2) (hP : Pos T S c un d v n F τ1) (hn : NmW T (lcU un T) (cnU un T) a s) {L1 L2 M1 M2 : Nat → Int32} (d1 : L1 1 = nI a) (d2 : L2 1 = nI a) (x1 : L1 2 = nI e) (x2 : L2 2 = nI e) (q1 : M1 1 = nI n) (q2 : M2 1 = nI n) : T2 (fun k => ob (x_assign k 0 L1 τ1) (fun r => x_pass k 0 M1 r.2)) (fun k => ob (x_assign k 0 L2 τ2) (fun r => x_pass k 0 M2 r.2)) (fun r1 r2 => OuQ T FN S t w XC σ1 σ2 r1.2 r2.2) := by
  obtain ⟨hE, U1, U2, B1, B2, kp⟩ := id hM
  have w6 := EI_w hE
  have hSc := Pos_sc B1 hP
  refine T2_ob (E_assign (by omega) hSc hE U1 U2 hn (fun _ _ _ _ _ _ _ _ _ _ _ => ⟨VC_tr he, ⟨e, rfl, Or.inl he⟩, ⟨e, rfl, Or.inl he⟩⟩) d1 d2 x1 x2) (fun r1 r2 hr => ?_)
  obtain ⟨c1, c2, c3, c4, c5⟩ := hr
  rcases c5 with ⟨w2, hw2, hJ⟩ | ⟨z1, z2⟩
  · exact E_pass hW hXC ht (Nat.le_trans hw hw2) (Mid_fc (I := fun _ => False) hM (FC_fs c1) (FC_fs c2) hJ c3 c4) (Pos_fs hW c1 hP) q1 q2
  · refine T2_mono (T2_t (s_passZ (EZ_e z1)) (s_passZ (EZ_e z2))) (fun s1 s2 hs => ?_)
    rw [hs.1, hs.2]
    exact OuQ_z (I := fun _ => False) hM (FC_fs c1) (FC_fs c2) c3 c4 (by omega) z1 z2
/-- statements by their kinds -/
def SPt (T : Nat → Nat → Int32) (FN : Nat → Nat → Prop) (S : Nat → Nat → Nat → Nat → Prop) : Prop := ∀ un d v n, S un d v n → (T 4 n = 44 → ∃ a s, T 5 n = nI a ∧ NmW T (lcU un T) (cnU un T) a s) ∧ (T 4 n = 46 → ∃ q, BrL T FN S un d v n (q + 1) (T 5 n))
/-- back to the last point -/
theorem E_backTrack (hW : SWf T FN S) (hK : SPt T FN S) (hXC : XC ≤ 401000) (ht : t + 9 + KBn T ≤ w + 17000) {w' : Nat} (hw : w ≤ w') (hM : Mid T FN S t w' XC σ1 σ2 τ1 τ2) {L1 L2 : Nat → Int32} : T2 (fun k => x_backTrack k 0 L1 τ1) (fun k => x_backTrack k 0 L2 τ2) (fun r1 r2 => OuQ T FN S t w XC σ1 σ2 r1.2 r2.2) := by
  obtain ⟨hE, U1, U2, B1, B2, kp, pq, ou⟩ := id hM
  have w6 := EI_w hE
  obtain ⟨_, P, h63, hP20, _⟩ := id U1
  have k63 : τ2.1 63 = nI P := by
    obtain ⟨g1, l1, B1, h1, X1, g2, l2, B2, h2, X2, _, _, hR, _⟩ := hE
    exact (hR.2.2.1 63 (by unfold AlS; omega)).symm.trans h63
  refine T2_suc (fun k => by rw [x_backTrack]) (fun k => by rw [x_backTrack]) ?_
  rw [h63, k63]
  refine T2_ite Iff.rfl (fun _ _ => ?_) (fun z _ => ?_)
  · refine T2_ob (T2_t (s_fail _ _) (s_fail _ _)) (fun y z hy => ?_)
    rw [hy.1, hy.2]
    obtain ⟨z1, z2⟩ := E_er (a := t) (b := 179400) (e := 10) (by omega) hE (by omega) (by decide) (Nat.le_refl _) (by omega)
    exact T2_some (OuQ_z (I := fun _ => False) hM (FC_fe FE_er) (FC_fe FE_er) (UT_fe FE_er U1) (UT_fe FE_er U2) (Nat.le_refl _) z1 z2)
  obtain ⟨p, rfl⟩ : ∃ p, P = p + 1 := ⟨P - 1, by
    have : P ≠ 0 := fun e => z (by rw [e]; rfl)
    omega⟩
  refine T2_suc (fun k => by rw [x_backTrack]) (fun k => by rw [x_backTrack]) ?_
  rw [h63, k63, n_sub1 (by omega)]
  refine T2_suc (fun k => by rw [x_backTrack]) (fun k => by rw [x_backTrack]) ?_
  show T2 (fun k => if ¬ (nI p < 0 ∨ 20 ≤ (nI p).toNatClampNeg) then x_backTrack k 3 L1 (mSc (mSc τ1 63 (nI p)) 65 (τ1.1 65 - τ1.2.2 32 (nI p).toNatClampNeg)) else none) (fun k => if ¬ (nI p < 0 ∨ 20 ≤ (nI p).toNatClampNeg) then x_backTrack k 3 L2 (mSc (mSc τ2 63 (nI p)) 65 (τ2.1 65 - τ2.2.2 32 (nI p).toNatClampNeg)) else none) _
  refine T2_chk (n_in (by omega) (by omega)) (n_in (by omega) (by omega)) ?_
  rw [n_cl (p := p) (by omega)]
  refine T2_suc (fun k => by rw [x_backTrack]) (fun k => by rw [x_backTrack]) ?_
  have rb0 : ∀ τ : MS, RbT p 0 τ τ := fun τ => ⟨rfl, rfl, fun _ _ => rfl, fun j hj => by omega, fun _ _ => rfl⟩
  refine E_bring (τ1 := mDp p τ1) (τ2 := mDp p τ2) mDp_63 mDp_63 (by omega) (fun ρ1 ρ2 N1 N2 hC hD => ?_) 11514 0 (mDp p τ1) (mDp p τ2) _ _ (by omega) (rb0 _) (rb0 _) rfl rfl
  have rs : ∀ (τ ρ : MS), RbT p 11514 (mDp p τ) ρ → RsT p τ (mSc ρ 64 (τ.2.2 32 p)) := fun τ ρ q => by
    obtain ⟨a1, a2, a3, a4, a5⟩ := q
    refine ⟨fun j h3 h4 h5 => ?_, ?_, rfl, ?_, a2, a3, a4, a5⟩
    · show upd ρ.1 64 (τ.2.2 32 p) j = τ.1 j
      rw [upd_other h4, a1]; exact mDp_s ⟨h3, h5⟩
    · show upd ρ.1 64 (τ.2.2 32 p) 63 = nI p
      rw [upd_other (by decide), a1]; rfl
    · show upd ρ.1 64 (τ.2.2 32 p) 65 = τ.1 65 - τ.2.2 32 p
      rw [upd_other (by decide), a1]; rfl
  have m1 := rs τ1 ρ1 hC
  have m2 := rs τ2 ρ2 hD
  show T2 (fun k => x_backTrack k 7 N1 (mSc ρ1 64 (τ1.2.2 32 p))) (fun k => x_backTrack k 7 N2 (mSc ρ2 64 (τ2.2.2 32 p))) _
  generalize mSc ρ1 64 (τ1.2.2 32 p) = ν1 at *
  generalize mSc ρ2 64 (τ2.2.2 32 p) = ν2 at *
  have hN := Mid_rs m1 m2 hM h63 k63 (by omega)
  obtain ⟨c, un, d, v, n, F, hP, n0, kn⟩ := Pos_rs hW m1 U1 pq h63 (by omega)
  have n0' : ν2.2.2 30 0 = nI n := (EI_30 hN.1 (by unfold Zn; omega) (InA_4 (by omega))).trans n0
  have C1 := hN.2.2.2.1
  have C2 := hN.2.2.2.2.1
  obtain ⟨_, _, ⟨n7, _, _⟩, _, _⟩ := Pos_b hW hP
  obtain ⟨hk4, hk6⟩ := hK un d v n (LVs_S hP.2.2.1)
  have fin9 : ∀ (s1 s2 : MS) (K1 K2 : Nat → Int32), OuQ T FN S t w XC σ1 σ2 s1 s2 → T2 (fun k => x_backTrack k 9 K1 s1) (fun k => x_backTrack k 9 K2 s2) (fun r1 r2 => OuQ T FN S t w XC σ1 σ2 r1.2 r2.2) := fun s1 s2 K1 K2 h => T2_suc (fun k => by rw [x_backTrack]) (fun k => by rw [x_backTrack]) (T2_some h)
  refine T2_suc (fun k => by rw [x_backTrack]) (fun k => by rw [x_backTrack]) ?_
  refine T2_chk (by decide) (by decide) ?_
  rw [show (0 : Int32).toNatClampNeg = 0 from by decide, n0, n0']
  refine T2_chk (n_in (by omega) (by omega)) (n_in (by omega) (by omega)) ?_
  rw [n_cl (p := n) (by omega), C1.1.1 4 _ (by omega) (by omega) (by omega), C2.1.1 4 _ (by omega) (by omega) (by omega)]
  refine T2_ite Iff.rfl (fun k44 _ => ?_) (fun k44 _ => ?_)
  · obtain ⟨a, s, xa, hn⟩ := hk4 k44
    refine T2_chk (n_in3 (by omega) (by omega)) (n_in3 (by omega) (by omega)) ?_
    rw [C1.1.1 5 _ (by omega) (by omega) (by omega), C2.1.1 5 _ (by omega) (by omega) (by omega), xa]
    have as : ∀ (f : Nat → Option (Int32 × MS)) (g : Nat → Int32 × MS → Option (Int32 × MS)) (h : Nat → Int32 × MS → Option (Int32 × MS)), (fun k => ob (f k) (fun r5 => ob (g k r5) (fun r6 => h k r6))) = (fun k => ob (ob (f k) (fun r5 => g k r5)) (fun r6 => h k r6)) := fun f g h => by
      funext k
      cases f k with
      | none => rfl
      | some r => rfl
    rw [as (fun k => x_assign k 0 (upd (upd (fun _ => 0) 1 (nI a)) 2 1) ν1) (fun k r5 => x_pass k 0 (upd (fun _ => 0) 1 (nI n)) r5.2) (fun k r6 => x_backTrack k 9 (upd N1 1 (nI n)) r6.2), as (fun k => x_assign k 0 (upd (upd (fun _ => 0) 1 (nI a)) 2 1) ν2) (fun k r5 => x_pass k 0 (upd (fun _ => 0) 1 (nI n)) r5.2) (fun k r6 => x_backTrack k 9 (upd N2 1 (nI n)) r6.2)]
    exact T2_ob (E_asgP (e := 1) hW hXC ht (by omega) hw hN hP hn rfl rfl rfl rfl rfl rfl) (fun s1 s2 hs => fin9 _ _ _ _ hs)
  · have k46 : T 4 n = 46 := kn.resolve_left k44
    obtain ⟨q, e, xe, he, _, _, hB⟩ := hk6 k46
    refine T2_suc (fun k => by rw [x_backTrack]) (fun k => by rw [x_backTrack]) ?_
    show T2 (fun k => if ¬ (nI n < 0 ∨ 70000 ≤ (nI n).toNatClampNeg) then (if ¬ (ν1.2.2 5 (nI n).toNatClampNeg < 0 ∨ 70000 ≤ (ν1.2.2 5 (nI n).toNatClampNeg).toNatClampNeg) then (ob (x_decide k 0 (upd (upd (fun _ => 0) 1 (nI n)) 2 (ν1.2.2 9 (ν1.2.2 5 (nI n).toNatClampNeg).toNatClampNeg)) ν1) (fun r3 => x_backTrack k 9 (upd N1 1 (nI n)) r3.2)) else none) else none) (fun k => if ¬ (nI n < 0 ∨ 70000 ≤ (nI n).toNatClampNeg) then (if ¬ (ν2.2.2 5 (nI n).toNatClampNeg < 0 ∨ 70000 ≤ (ν2.2.2 5 (nI n).toNatClampNeg).toNatClampNeg) then (ob (x_decide k 0 (upd (upd (fun _ => 0) 1 (nI n)) 2 (ν2.2.2 9 (ν2.2.2 5 (nI n).toNatClampNeg).toNatClampNeg)) ν2) (fun r3 => x_backTrack k 9 (upd N2 1 (nI n)) r3.2)) else none) else none) _
    refine T2_chk (n_in (by omega) (by omega)) (n_in (by omega) (by omega)) ?_
    rw [n_cl (p := n) (by omega), C1.1.1 5 _ (by omega) (by omega) (by omega), C2.1.1 5 _ (by omega) (by omega) (by omega), xe]
    refine T2_chk (n_in (by omega) (by omega)) (n_in (by omega) (by omega)) ?_
    rw [n_cl (p := e) (by omega), C1.1.1 9 _ (by omega) (by omega) (by omega), C2.1.1 9 _ (by omega) (by omega) (by omega)]
    refine T2_ob ?_ (fun s1 s2 hs => fin9 s1.2 s2.2 _ _ hs)
    refine T2_suc (fun k => by rw [x_decide]) (fun k => by rw [x_decide]) ?_
    exact E_decide hW hXC ht k46 q w' (T 9 e) ν1 ν2 _ _ hw hN hP hB rfl rfl rfl rfl
end BTK
