section JnS334
variable {yf : Nat × Nat}
/-! The call program (reference): taken, refused. -/
/-- the state as the reading begins: the text is kept -/
def Pg1 (σ : MS) (n : Nat) (ρ : MS) : Prop := ρ.1 = upd (upd σ.1 2 0) 11 0 ∧ ρ.2.1 = σ.2.1 ∧ (∀ a, a ≠ 56 → ρ.2.2 a = σ.2.2 a) ∧ ∀ i, i < n → ρ.2.2 56 i = σ.2.2 3 i
section PGC
variable {σ : MS} {n : Nat} {Q : Int32 × MS → Prop}
theorem pg_pre (hn : mN σ n) (H : ∀ (N : Nat → Int32) (ρ : MS), N 1 = nI n → Pg1 σ n ρ → Tm (fun k => x_program k 5 N ρ) Q) (L : Nat → Int32) : Tm (fun k => x_program k 0 L σ) Q := by
  have n32 : n ≤ 32768 := hn.2
  refine Tm_suc (fun k => by rw [x_program]) ?_
  refine Tm_suc (fun k => by rw [x_program]) ?_
  refine Tm_suc (fun k => by rw [x_program]) ?_
  have lp : ∀ (d i : Nat) (N : Nat → Int32) (υ : MS), d + i = n → N 1 = nI n → N 2 = nI i → υ.1 = upd (upd σ.1 2 0) 11 0 → υ.2.1 = σ.2.1 → (∀ a, a ≠ 56 → υ.2.2 a = σ.2.2 a) → (∀ k, k < i → υ.2.2 56 k = σ.2.2 3 k) → Tm (fun k => x_program k 3 N υ) Q := by
    intro d
    induction d with
    | zero =>
      intro i N υ hi n1 n2 us ul ur uc
      refine Tm_suc (fun k => by rw [x_program]) ?_
      rw [n1, n2]
      refine Tm_ite (fun _ => ?_) (fun z => absurd ((n_le (by omega) (by omega)).mpr (by omega)) z)
      exact H N υ n1 ⟨us, ul, ur, fun k hk => uc k (by omega)⟩
    | succ d ih =>
      intro i N υ hi n1 n2 us ul ur uc
      refine Tm_suc (fun k => by rw [x_program]) ?_
      rw [n1, n2]
      refine Tm_ite (fun z => absurd ((n_le (by omega) (by omega)).mp z) (by omega)) (fun _ => ?_)
      refine Tm_chk (n_in (by omega) (by omega)) ?_
      refine Tm_chk (n_in (by omega) (by omega)) ?_
      rw [n_cl (p := i) (by omega)]
      show Tm (fun k => x_program k 4 N (mAr υ 56 i (υ.2.2 3 i))) _
      refine Tm_suc (fun k => by rw [x_program]) ?_
      rw [n2, n_add1]
      refine ih (i + 1) _ _ (by omega) (by rw [upd_other (by decide)]; exact n1) upd_same us ul (fun a h => (mAr_o h).trans (ur a h)) (fun k hk => ?_)
      rw [mAr_s]
      by_cases e : k = i
      · rw [e, upd_same, ur 3 (by decide)]
      · rw [upd_other e]; exact uc k (by omega)
  refine lp n 0 _ _ (by omega) ?_ upd_same rfl rfl (fun _ _ => rfl) (fun k hk => absurd hk (Nat.not_lt_zero k))
  rw [upd_other (by decide), upd_same]
  show upd (upd σ.1 2 0) 11 0 4 = _
  rw [upd_other (by decide), upd_other (by decide)]; exact hn.1
/-- a program is taken: what is left of the state where it was read (ρ) -/
def PgY (ρ : MS) (n : Nat) (U : Nat → Int32) (ω : MS) : Prop := (∀ j, ¬ (j = 115 ∨ j = 4 ∨ j = 111 ∨ j = 112 ∨ j = 73) → ω.1 j = ρ.1 j) ∧ (ω.1 115 = nI n ∧ ω.1 4 = 0 ∧ ω.1 111 = 1 ∧ ω.1 112 = 0 ∧ ω.1 73 = 0) ∧ ω.2.1 = ρ.2.1 ∧ (∀ a, a ≠ 53 → ω.2.2 a = ρ.2.2 a) ∧ ∀ i, i < n → ω.2.2 53 i = U i
theorem pg_8 {ρ : MS} {U : Nat → Int32} (n32 : n ≤ 32768) (hU : ∀ i, i < n → ρ.2.2 56 i = U i) {N : Nat → Int32} (n1 : N 1 = nI n) : Tm (fun k => x_program k 8 N ρ) (fun r => r.1 = ρ.1 44 ∧ PgY ρ n U r.2) := by
  refine Tm_suc (fun k => by rw [x_program]) ?_
  have lp : ∀ (d i : Nat) (N : Nat → Int32) (υ : MS), d + i = n → N 1 = nI n → N 2 = nI i → υ.1 = ρ.1 → υ.2.1 = ρ.2.1 → (∀ a, a ≠ 53 → υ.2.2 a = ρ.2.2 a) → (∀ k, k < i → υ.2.2 53 k = U k) → Tm (fun k => x_program k 9 N υ) (fun r => r.1 = ρ.1 44 ∧ PgY ρ n U r.2) := by
    intro d
    induction d with
    | zero =>
      intro i N υ hi n1 n2 us ul ur uc
      refine Tm_suc (fun k => by rw [x_program]) ?_
      rw [n1, n2]
      refine Tm_ite (fun _ => ?_) (fun z => absurd ((n_le (by omega) (by omega)).mpr (by omega)) z)
      refine Tm_suc (fun k => by rw [x_program]) ?_
      refine Tm_suc (fun k => by rw [x_program]) ?_
      refine Tm_suc (fun k => by rw [x_program]) ?_
      refine Tm_suc (fun k => by rw [x_program]) ?_
      refine Tm_suc (fun k => by rw [x_program]) ?_
      refine Tm_suc (fun k => by rw [x_program]) ?_
      have o : ∀ j, ¬ (j = 115 ∨ j = 4 ∨ j = 111 ∨ j = 112 ∨ j = 73) → upd (upd (upd (upd (upd υ.1 115 (N 1)) 4 0) 111 1) 112 0) 73 0 j = ρ.1 j := fun j hj => by
        rw [upd_other (by omega), upd_other (by omega), upd_other (by omega), upd_other (by omega), upd_other (by omega), us]
      refine Tm_some ⟨o 44 (by decide), o, ⟨?_, ?_, ?_, ?_, ?_⟩, ul, ur, fun i hi => uc i (by omega)⟩
      · show upd (upd (upd (upd (upd υ.1 115 (N 1)) 4 0) 111 1) 112 0) 73 0 115 = _
        rw [upd_other (by decide), upd_other (by decide), upd_other (by decide), upd_other (by decide), upd_same]; exact n1
      · show upd (upd (upd (upd (upd υ.1 115 (N 1)) 4 0) 111 1) 112 0) 73 0 4 = _
        rw [upd_other (by decide), upd_other (by decide), upd_other (by decide), upd_same]
      · show upd (upd (upd (upd (upd υ.1 115 (N 1)) 4 0) 111 1) 112 0) 73 0 111 = _
        rw [upd_other (by decide), upd_other (by decide), upd_same]
      · show upd (upd (upd (upd (upd υ.1 115 (N 1)) 4 0) 111 1) 112 0) 73 0 112 = _
        rw [upd_other (by decide), upd_same]
      · show upd (upd (upd (upd (upd υ.1 115 (N 1)) 4 0) 111 1) 112 0) 73 0 73 = _
        exact upd_same
    | succ d ih =>
      intro i N υ hi n1 n2 us ul ur uc
      refine Tm_suc (fun k => by rw [x_program]) ?_
      rw [n1, n2]
      refine Tm_ite (fun z => absurd ((n_le (by omega) (by omega)).mp z) (by omega)) (fun _ => ?_)
      refine Tm_chk (n_in (by omega) (by omega)) ?_
      refine Tm_chk (n_in (by omega) (by omega)) ?_
      rw [n_cl (p := i) (by omega)]
      show Tm (fun k => x_program k 10 N (mAr υ 53 i (υ.2.2 56 i))) _
      refine Tm_suc (fun k => by rw [x_program]) ?_
      rw [n2, n_add1]
      refine ih (i + 1) _ _ (by omega) (by rw [upd_other (by decide)]; exact n1) upd_same us ul (fun a h => (mAr_o h).trans (ur a h)) (fun k hk => ?_)
      rw [mAr_s]
      by_cases e : k = i
      · rw [e, upd_same, ur 56 (by decide), hU i (by omega)]
      · rw [upd_other e]; exact uc k (by omega)
  exact lp n 0 _ ρ (by omega) (by rw [upd_other (by decide)]; exact n1) upd_same rfl rfl (fun _ _ => rfl) (fun k hk => absurd hk (Nat.not_lt_zero k))
theorem Pg1_rd {ρ : MS} (h : Pg1 σ n ρ) (hn : mN σ n) (hW : σ.2.2 1 = mT mWords 264) (hA : PA σ) : mN ρ n ∧ ρ.2.2 3 = σ.2.2 3 ∧ ρ.2.2 1 = mT mWords 264 ∧ PA ρ ∧ ρ.2.2 10 = σ.2.2 10 ∧ ρ.2.2 11 = σ.2.2 11 := by
  obtain ⟨h1, h2, h3, h4⟩ := h
  refine ⟨⟨?_, hn.2⟩, h3 3 (by decide), (h3 1 (by decide)).trans hW, fun p hp => ?_, h3 10 (by decide), h3 11 (by decide)⟩
  · rw [h1, upd_other (by decide), upd_other (by decide)]; exact hn.1
  · rw [h3 18 (by decide)]; exact hA p hp
/-- taken -/
theorem s_prgY {g : PRG} {t : ST} (hn : mN σ n) (hW : σ.2.2 1 = mT mWords 264) (hA : PA σ) (hG : gPrg (σ.2.2 3) n (g0 (σ.2.2 3) n (σ.2.2 10) (σ.2.2 11)) = some (Sum.inr (g, t))) (L : Nat → Int32) : Tm (fun k => x_program k 0 L σ) (fun r => ∃ ρ1 ρ, Pg1 σ n ρ1 ∧ PR (σ.2.2 3) n g t ρ ∧ FrP ρ1 ρ ∧ r.1 = ρ.1 44 ∧ PgY ρ n (σ.2.2 3) r.2 ∧ r.2.1 11 = 0) := by
  refine pg_pre hn (fun N ρ1 n1 h1 => ?_) L
  obtain ⟨a1, a2, a3, a4, a5, a6⟩ := Pg1_rd h1 hn hW hA
  refine Tm_suc (fun k => by rw [x_program]) ?_
  have e11 : ρ1.1 11 = 0 := by rw [h1.1]; exact upd_same
  refine Tm_ob (Tm_kk (p_readProgram (x := Sum.inr (g, t)) a1 a2 a3 a4 (by rw [a5, a6]; exact hG)) (fun k => kk_readProgram (c := 0) k 0 _ ρ1 (fun _ => e11) (fun _ => e11))) (fun r hr => ?_)
  obtain ⟨⟨hR, hF⟩, hK⟩ := hr
  have h10 : r.2.1 10 = 0 := hR.1.1.1.2.2.2.1
  refine Tm_ite (fun _ => ?_) (fun z => absurd h10 z)
  refine Tm_mono (pg_8 (U := σ.2.2 3) hn.2 (fun i hi => ?_) n1) (fun r2 hr2 => ⟨ρ1, r.2, h1, hR, hF, hr2.1, hr2.2, (hr2.2.1 11 (by decide)).trans (hK h10)⟩)
  rw [hF.2.2.1 56 (by decide)]; exact h1.2.2.2 i hi
/-- refused, and no program stands -/
theorem s_prgN (hn : mN σ n) (hW : σ.2.2 1 = mT mWords 264) (hA : PA σ) (h111 : σ.1 111 = 0) (hG : gPrg (σ.2.2 3) n (g0 (σ.2.2 3) n (σ.2.2 10) (σ.2.2 11)) = some (Sum.inl yf)) (L : Nat → Int32) : Tm (fun k => x_program k 0 L σ) (fun r => (r.1 = -1 - nI yf.2 ∧ r.2.1 11 = nI yf.1) ∧ ∃ ρ1 ρ, Pg1 σ n ρ1 ∧ FrP ρ1 ρ ∧ (∀ j, ¬ (j = 22 ∨ j = 24 ∨ j = 25 ∨ j = 44 ∨ j = 31 ∨ j = 11 ∨ j = 4) → r.2.1 j = ρ.1 j) ∧ r.2.1 4 = 0 ∧ r.2.2.1 = ρ.2.1 ∧ ∀ a, a ≠ 21 → r.2.2.2 a = ρ.2.2 a) := by
  refine pg_pre hn (fun N ρ1 n1 h1 => ?_) L
  obtain ⟨a1, a2, a3, a4, a5, a6⟩ := Pg1_rd h1 hn hW hA
  refine Tm_suc (fun k => by rw [x_program]) ?_
  refine Tm_ob (p_readProgram (x := Sum.inl yf) a1 a2 a3 a4 (by rw [a5, a6]; exact hG)) (fun r hr => ?_)
  obtain ⟨⟨m, hB⟩, hF⟩ := hr
  refine Tm_ite (fun z => absurd z hB.1) (fun _ => ?_)
  have k111 : r.2.1 111 = 0 := by rw [hF.1 111 (by decide), h1.1, upd_other (by decide), upd_other (by decide)]; exact h111
  refine Tm_ob (P := fun q => (∀ j, ¬ (j = 22 ∨ j = 24 ∨ j = 25 ∨ j = 44 ∨ j = 31) → q.2.1 j = r.2.1 j) ∧ q.2.2.1 = r.2.2.1 ∧ ∀ a, a ≠ 21 → q.2.2.2 a = r.2.2.2 a) ?_ (fun q hq => ?_)
  · refine Tm_suc (fun k => by rw [x_readAgain]) ?_
    refine Tm_ite (fun _ => ?_) (fun z => absurd k111 z)
    refine Tm_suc (fun k => by rw [x_readAgain]) ?_
    refine Tm_suc (fun k => by rw [x_readAgain]) ?_
    refine Tm_suc (fun k => by rw [x_readAgain]) ?_
    refine Tm_chk (by decide) ?_
    refine Tm_suc (fun k => by rw [x_readAgain]) ?_
    refine Tm_suc (fun k => by rw [x_readAgain]) ?_
    refine Tm_some ⟨fun j hj => ?_, rfl, fun a ha => updG_other ha⟩
    show upd (upd (upd (upd (upd r.2.1 22 1) 24 0) 25 0) 44 0) 31 0 j = _
    rw [upd_other (by omega), upd_other (by omega), upd_other (by omega), upd_other (by omega), upd_other (by omega)]
  · refine Tm_suc (fun k => by rw [x_program]) ?_
    refine Tm_suc (fun k => by rw [x_program]) ?_
    refine Tm_some ⟨⟨(show -1 - r.2.1 12 = _ by rw [hB.2.2.2]), (show upd (upd q.2.1 11 (r.2.1 11)) 4 0 11 = _ from (upd_other (by decide)).trans (upd_same.trans hB.2.2.1))⟩, ρ1, r.2, h1, hF, fun j hj => ?_, (show upd (upd q.2.1 11 (r.2.1 11)) 4 0 4 = 0 from upd_same), hq.2.1, hq.2.2⟩
    show upd (upd q.2.1 11 (r.2.1 11)) 4 0 j = _
    rw [upd_other (by omega), upd_other (by omega)]; exact hq.1 j (by omega)
/-- refused; the program that stands is read again -/
theorem s_prgA {TX u p : Nat → Int32} {nX : Nat} {g : PRG} {t : ST} (hn : mN σ n) (hW : σ.2.2 1 = mT mWords 264) (hA : PA σ) (h111 : ¬ σ.1 111 = 0) (hX : nX ≤ 32768) (h115 : σ.1 115 = nI nX) (h53 : ∀ i, i < nX → σ.2.2 53 i = TX i) (hP : gPrg TX nX (g0 TX nX u p) = some (Sum.inr (g, t))) (hG : gPrg (σ.2.2 3) n (g0 (σ.2.2 3) n (σ.2.2 10) (σ.2.2 11)) = some (Sum.inl yf)) (L : Nat → Int32) : Tm (fun k => x_program k 0 L σ) (fun r => (r.1 = -1 - nI yf.2 ∧ r.2.1 11 = nI yf.1) ∧ ∃ ρ1 ρ2 ρ3 ρ g' t', Pg1 σ n ρ1 ∧ FrP ρ1 ρ2 ∧ LdF ρ2 (fun i => ρ2.2.2 53 (0 + i)) nX ρ3 ∧ SmP g t g' t' ∧ PR (ρ3.2.2 3) nX g' t' ρ ∧ FrP ρ3 ρ ∧ (∀ j, ¬ (j = 11 ∨ j = 4) → r.2.1 j = ρ.1 j) ∧ r.2.1 4 = 0 ∧ r.2.2.1 = ρ.2.1 ∧ ∀ a, r.2.2.2 a = ρ.2.2 a) := by
  refine pg_pre hn (fun N ρ1 n1 h1 => ?_) L
  obtain ⟨a1, a2, a3, a4, a5, a6⟩ := Pg1_rd h1 hn hW hA
  refine Tm_suc (fun k => by rw [x_program]) ?_
  refine Tm_ob (p_readProgram (x := Sum.inl yf) a1 a2 a3 a4 (by rw [a5, a6]; exact hG)) (fun r hr => ?_)
  obtain ⟨⟨m, hB⟩, hF⟩ := hr
  refine Tm_ite (fun z => absurd z hB.1) (fun _ => ?_)
  have s1 : ∀ j, ¬ (j = 2 ∨ j = 11) → ρ1.1 j = σ.1 j := fun j hj => by rw [h1.1, upd_other (by omega), upd_other (by omega)]
  have k111 : ¬ r.2.1 111 = 0 := by rw [hF.1 111 (by decide), s1 111 (by decide)]; exact h111
  have k115 : r.2.1 115 = nI nX := by rw [hF.1 115 (by decide), s1 115 (by decide)]; exact h115
  refine Tm_ob (P := fun q => ∃ ρ3 g' t', LdF r.2 (fun i => r.2.2.2 53 (0 + i)) nX ρ3 ∧ SmP g t g' t' ∧ PR (ρ3.2.2 3) nX g' t' q.2 ∧ FrP ρ3 q.2) ?_ (fun q hq => ?_)
  · refine Tm_suc (fun k => by rw [x_readAgain]) ?_
    refine Tm_ite (fun z => absurd z k111) (fun _ => ?_)
    refine Tm_suc (fun k => by rw [x_readAgain]) ?_
    refine Tm_ob (s_load53 (p := 0) (n := nX) hX (by omega) (by rw [upd_other (by decide), upd_same]; rfl) (by rw [upd_same]; exact k115)) (fun r3 hr3 => ?_)
    obtain ⟨l1, l2, l3, l4, l5⟩ := id hr3
    have e3 : ∀ i, i < nX → r3.2.2.2 3 i = TX i := fun i hi => by
      rw [l5 i hi]
      show r.2.2.2 53 (0 + i) = TX i
      rw [Nat.zero_add, hF.2.2.1 53 (by decide), h1.2.2.1 53 (by decide)]; exact h53 i hi
    obtain ⟨y, hy⟩ := gPrg_tot (r3.2.2.2 3) nX (r3.2.2.2 10) (r3.2.2.2 11)
    have ok : ∃ z, y = Sum.inr z := by
      cases y with
      | inr z => exact ⟨z, rfl⟩
      | inl ye =>
        exfalso
        have e : gPrg (r3.2.2.2 3) nX (g0 (r3.2.2.2 3) nX (r3.2.2.2 10) (r3.2.2.2 11)) = gPrg TX nX (g0 TX nX (r3.2.2.2 10) (r3.2.2.2 11)) := by
          have es : sk (r3.2.2.2 3) nX 0 = sk TX nX 0 := congrFun (sk_c (T := r3.2.2.2 3) (T' := TX) e3) 0
          have eg : g0 (r3.2.2.2 3) nX (r3.2.2.2 10) (r3.2.2.2 11) = g0 TX nX (r3.2.2.2 10) (r3.2.2.2 11) := by unfold g0; rw [es]
          rw [eg, gPrg_c (T := r3.2.2.2 3) (T' := TX) e3]
        rw [e] at hy
        have z : Zp (fun _ => False) (fun _ => False) 0 ((0, u, p) : SB) (0, r3.2.2.2 10, r3.2.2.2 11) := ⟨rfl, Nat.le_refl _, fun i hi => by
          rcases hi with y | y
          · exact y.elim
          · exact absurd y.2 (Nat.not_lt_zero _), fun i hi => by
          rcases hi with y | y
          · exact y.elim
          · exact absurd y.2 (Nat.not_lt_zero _)⟩
        have R := gPrg_z (T := TX) (n := nX) (q := sk TX nX 0) (E := ([], [], [], 0, true, true, fun _ => 0)) (MD := fun _ _ => 0) (c := 0) (pc := 0) (v := 0) (b := (1, 0, fun _ _ => 0, fun _ => 0, fun _ => 0)) (F := fun _ => 0) z
        have hP' : gPrg TX nX (sk TX nX 0, ([], [], [], 0, true, true, fun _ => 0), fun _ _ => 0, 0, 0, 0, (1, 0, fun _ _ => 0, fun _ => 0, fun _ => 0), (0, u, p), fun _ => 0) = some (Sum.inr (g, t)) := hP
        have hy' : gPrg TX nX (sk TX nX 0, ([], [], [], 0, true, true, fun _ => 0), fun _ _ => 0, 0, 0, 0, (1, 0, fun _ _ => 0, fun _ => 0, fun _ => 0), (0, r3.2.2.2 10, r3.2.2.2 11), fun _ => 0) = some (Sum.inl ye) := hy
        rw [hP', hy'] at R
        rcases R with ⟨z, _⟩ | ⟨_, z, _⟩ | ⟨a, a', _, z2, _⟩
        · cases z
        · cases z
        · cases z2
    obtain ⟨⟨g', t'⟩, rfl⟩ := ok
    refine Tm_ob (p_readProgram (x := Sum.inr (g', t')) (n := nX) (T := r3.2.2.2 3) ⟨l1, hX⟩ rfl ?_ (fun p hp => ?_) hy) (fun r4 hr4 => ?_)
    · rw [l4 1 (by decide), hF.2.2.1 1 (by decide)]; exact a3
    · rw [l4 18 (by decide)]; exact hF.2.2.2 a4 p hp
    · exact Tm_some ⟨r3.2, g', t', hr3, SmP_of (T := TX) (T' := r3.2.2.2 3) e3 hP hy, hr4.1, hr4.2⟩
  · obtain ⟨ρ3, g', t', q1, q2, q3, q4⟩ := hq
    refine Tm_suc (fun k => by rw [x_program]) ?_
    refine Tm_suc (fun k => by rw [x_program]) ?_
    refine Tm_some ⟨⟨(show -1 - r.2.1 12 = _ by rw [hB.2.2.2]), (show upd (upd q.2.1 11 (r.2.1 11)) 4 0 11 = _ from (upd_other (by decide)).trans (upd_same.trans hB.2.2.1))⟩, ρ1, r.2, ρ3, q.2, g', t', h1, hF, q1, q2, q3, q4, fun j hj => ?_, (show upd (upd q.2.1 11 (r.2.1 11)) 4 0 4 = 0 from upd_same), rfl, fun a => rfl⟩
    show upd (upd q.2.1 11 (r.2.1 11)) 4 0 j = _
    rw [upd_other (by omega), upd_other (by omega)]
end PGC
end JnS334
