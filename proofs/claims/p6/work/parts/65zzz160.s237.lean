/-! Statements on both sides (reference): the tree of statements; loops that are open; an iterator is dropped, a name is emptied. -/
/-- what a statement lies in -/
def upN (T : Nat → Nat → Int32) (n : Nat) : Int32 := T 10 (T 8 n).toNatClampNeg
/-- the length of a list -/
def chl (T : Nat → Nat → Int32) : Nat → Int32 → Nat
  | 0, _ => 0
  | f + 1, x => if x = -1 then 0 else 1 + chl T f (T 9 x.toNatClampNeg)
/-- iterators of a for -/
def itn (T : Nat → Nat → Int32) (m : Nat) : Nat := chl T 61 (T 5 m)
/-- the fors that a statement lies in, from within -/
def fls (T : Nat → Nat → Int32) : Nat → Nat → List Nat
  | 0, _ => []
  | d + 1, n => if T 4 (upN T n).toNatClampNeg = 48 then (upN T n).toNatClampNeg :: fls T d (upN T n).toNatClampNeg else fls T d (upN T n).toNatClampNeg
def suI (T : Nat → Nat → Int32) : List Nat → Nat
  | [] => 0
  | m :: F => itn T m + suI T F
/-- there is a loop around -/
def hlp (T : Nat → Nat → Int32) : Nat → Nat → Prop
  | 0, _ => False
  | d + 1, n => T 4 (upN T n).toNatClampNeg = 47 ∨ T 4 (upN T n).toNatClampNeg = 48 ∨ hlp T d (upN T n).toNatClampNeg
/-- names that are written, q of them -/
def NmL (T : Nat → Nat → Int32) (lc cn : Nat → Prop) : Nat → Int32 → Prop
  | 0, x => x = -1
  | q + 1, x => ∃ a s, x = nI a ∧ NmW T lc cn a s ∧ NmL T lc cn q (T 9 a)
/-- iterators of a for, k of them -/
def ItL (T : Nat → Nat → Int32) (FN : Nat → Nat → Prop) (lc cn : Nat → Prop) : Nat → Int32 → Prop
  | 0, x => x = -1
  | k + 1, x => ∃ e, x = nI e ∧ (1 ≤ e ∧ e < LNo T % 70001) ∧ (∃ q, 1 ≤ q ∧ q ≤ 60 ∧ NmL T lc cn q (T 6 e)) ∧ Wx0 T FN lc (T 7 e) ∧ ItL T FN lc cn k (T 9 e)
/-- the stack of the fors that are open -/
def FSk (T : Nat → Nat → Int32) (A : Nat → Int32) : List Nat → Prop
  | [] => True
  | m :: F => ((1 ≤ m ∧ m < LNo T % 70001) ∧ A (3214 + 2 * F.length) = nI m ∧ A (3214 + 2 * F.length + 1) = nI (suI T F)) ∧ FSk T A F
/-- iterators that are open: over rows, at a place of theirs -/
def ItS (σ : MS) (q : Nat) : Prop := ∀ i, i < q → 4 ≤ (szV σ 30 (5314 + i)).2.1 ∧ ∃ p k, (szV σ 30 (5314 + i)).2.2 = nI p ∧ p ≤ 3996 ∧ σ.2.2 30 (8414 + i) = nI k ∧ k ≤ p
/-- what stays, but for numbers I of the state -/
def FCt (I : Nat → Prop) (σ ρ : MS) : Prop := (∀ j, AlS j → j ≠ 57 → j ≠ 59 → j ≠ 95 → j ≠ 64 → ρ.1 j = σ.1 j) ∧ (∀ a i, AlR a → ¬ Zn a i → ¬ ((a = 35 ∨ a = 50) ∧ (σ.1 72).toNatClampNeg ≤ i) → ¬ (a = 30 ∧ I i) → ρ.2.2 a i = σ.2.2 a i) ∧ ρ.2.2 2 = σ.2.2 2
section FCS
variable {σ ρ τ : MS} {I J : Nat → Prop}
theorem FC_fs (h : FSt σ ρ) : FCt I σ ρ := ⟨h.1, fun a i h1 h2 h3 _ => h.2.1 a i h1 h2 h3, h.2.2.1⟩
theorem FC_fe (h : FE σ ρ) : FCt I σ ρ := FC_fs (FS_fe h)
theorem FC_rf : FCt I σ σ := FC_fs FS_rf
theorem FC_tr (a : FCt I σ τ) (b : FCt I τ ρ) : FCt I σ ρ := by
  have e : τ.1 72 = σ.1 72 := a.1 72 (by unfold AlS; omega) (by decide) (by decide) (by decide) (by decide)
  refine ⟨fun j h1 h2 h3 h4 h5 => (b.1 j h1 h2 h3 h4 h5).trans (a.1 j h1 h2 h3 h4 h5), fun x i h1 h2 h3 h4 => ?_, b.2.2.trans a.2.2⟩
  rw [b.2.1 x i h1 h2 (by rw [e]; exact h3) h4, a.2.1 x i h1 h2 h3 h4]
theorem FC_mo (h : ∀ i, I i → J i) (a : FCt I σ ρ) : FCt J σ ρ := ⟨a.1, fun x i h1 h2 h3 h4 => a.2.1 x i h1 h2 h3 (fun z => h4 ⟨z.1, h i z.2⟩), a.2.2⟩
theorem FC_30 {i : Nat} (h : FCt I σ ρ) (hz : ¬ Zn 30 i) (hi : ¬ I i) : ρ.2.2 30 i = σ.2.2 30 i := h.2.1 30 i (by unfold AlR; omega) hz (by omega) (fun z => hi z.2)
theorem FC_w {i : Nat} {x : Int32} (h : I i) : FCt I σ (mAr σ 30 i x) := by
  refine ⟨fun _ _ _ _ _ _ => rfl, fun a j _ _ _ h4 => ?_, mAr_o (by decide)⟩
  by_cases e : a = 30
  · subst e; rw [mAr_s, upd_other (fun e => h4 ⟨rfl, by rw [e]; exact h⟩)]
  · rw [mAr_o e]
theorem ItS_mo {p q : Nat} (h : ItS σ q) (hp : p ≤ q) : ItS σ p := fun i hi => h i (by omega)
theorem ItS_fs {q n : Nat} (hF : FSt σ ρ) (h3 : σ.2.2 30 3 = nI n) (hn : n ≤ 3100) (hq : q ≤ n) (h : ItS σ q) : ItS ρ q := by
  intro i hi
  have e := hF.2.2.2 (5314 + i) (by omega) (by unfold StI; rw [show (0 + 3) = 3 from rfl, h3, n_cl (p := n) (by omega)]; omega)
  rw [e, hF.2.1 30 (8414 + i) (by unfold AlR; omega) (by unfold Zn; omega) (by omega)]
  exact h i hi
theorem ItS_c {q : Nat} (hq : q ≤ 3100) (h28 : ρ.2.2 28 = σ.2.2 28) (h : ∀ i, (5314 ≤ i ∧ i < 5314 + q) ∨ (8414 ≤ i ∧ i < 8414 + q) → ρ.2.2 30 i = σ.2.2 30 i) (hI : ItS σ q) : ItS ρ q := by
  intro i hi
  unfold szV
  rw [h28, h (5314 + i) (by omega), h (8414 + i) (by omega)]
  exact hI i hi
theorem FSk_c {T : Nat → Nat → Int32} {A A' : Nat → Int32} : ∀ {F : List Nat}, F.length ≤ 1050 → (∀ i, 3214 ≤ i → i < 5314 → A' i = A i) → FSk T A F → FSk T A' F
  | [], _, _, _ => trivial
  | m :: F, hl, h, hF => by
    have hl : F.length + 1 ≤ 1050 := hl
    refine ⟨⟨hF.1.1, ?_, ?_⟩, FSk_c (by omega) h hF.2⟩
    · rw [h _ (by omega) (by omega)]; exact hF.1.2.1
    · rw [h _ (by omega) (by omega)]; exact hF.1.2.2
end FCS
section DRO
variable {t w XC q : Nat} {σ σ1 σ2 : MS}
theorem s_dropIter {g : Nat → Prop} {l : List Nat} {B h v : Nat} (hS : HS g l B h σ) (hU : UT σ) (hq : q + 1 ≤ 3100) (h3 : σ.2.2 30 3 = nI (q + 1)) (hv : σ.2.2 30 (5314 + q) = nI v) (gv : v < 3 ∨ g v) {L : Nat → Int32} : Tm (fun k => x_dropIter k 0 L σ) (fun r => r = (0, mSc (mAr σ 30 3 (nI q)) 64 (nI (StS σ - szN (σ.2.2 28) v)))) ∧ UT (mSc (mAr σ 30 3 (nI q)) 64 (nI (StS σ - szN (σ.2.2 28) v))) := by
  have o : ∀ j, j ≠ 3 → (mAr σ 30 3 (nI q)).2.2 30 j = σ.2.2 30 j := fun j hj => by rw [mAr_s, upd_other hj]
  have q28 : (mAr σ 30 3 (nI q)).2.2 28 = σ.2.2 28 := mAr_o (by decide)
  have s3 : (mAr σ 30 3 (nI q)).2.2 30 3 = nI q := by rw [mAr_s, upd_same]
  have bv := HS_vb hS gv
  have st : ∀ j, StI ((mAr σ 30 3 (nI q)).2.2 30) 0 j ↔ (StI (σ.2.2 30) 0 j ∧ j ≠ 5314 + q) := fun j => by
    obtain ⟨c, c1, c2, _⟩ := UT_cw hU
    unfold StI
    rw [show (0 + 3) = 3 from rfl, s3, h3, o (0 + 1) (by omega), c1, n_cl (p := q) (by omega), n_cl (p := q + 1) (by omega), n_cl (p := c) (by omega)]
    omega
  have nu : ∀ j, NUa (kC σ) ((mAr σ 30 3 (nI q)).2.2 30) 0 j ↔ NUa (kC σ) (σ.2.2 30) 0 j := fun j => NUa_m (fun j h1 h2 _ => o _ (by omega))
  have ci : CtA (kC σ) (σ.2.2 30) 0 (5314 + q) := by
    refine ⟨?_, ?_⟩
    · unfold StI; rw [show (0 + 3) = 3 from rfl, h3, n_cl (p := q + 1) (by omega)]; omega
    · rintro (z | z) <;> omega
  have s0 : szP (σ.2.2 28) (kC σ) (σ.2.2 30) 0 (5314 + q) = szN (σ.2.2 28) v := by
    unfold szP
    rw [if_pos ci, Nat.zero_add, hv, n_cl (by omega)]
  have le : szN (σ.2.2 28) v ≤ StS σ := by rw [← s0]; exact suN_le (by omega)
  obtain ⟨h64, P, h63, hP, h65, h32, hl, _⟩ := hU
  refine ⟨?_, ?_⟩
  · refine Tm_suc (fun k => by rw [x_dropIter]) ?_
    refine Tm_chk (by decide) ?_
    refine Tm_chk (by decide) ?_
    rw [show (3 : Int32).toNatClampNeg = 3 from by decide, h3, n_sub1 (by omega)]
    refine Tm_suc (fun k => by rw [x_dropIter]) ?_
    refine Tm_chk (by decide) ?_
    show Tm (fun k => if ¬ (5314 + (mAr σ 30 3 (nI q)).2.2 30 (3 : Int32).toNatClampNeg < 0 ∨ 11514 ≤ (5314 + (mAr σ 30 3 (nI q)).2.2 30 (3 : Int32).toNatClampNeg).toNatClampNeg) then ob (x_size k 0 (upd (fun _ => 0) 1 ((mAr σ 30 3 (nI q)).2.2 30 (5314 + (mAr σ 30 3 (nI q)).2.2 30 (3 : Int32).toNatClampNeg).toNatClampNeg)) (mAr σ 30 3 (nI q))) (fun r3 => some (0, (upd r3.2.1 64 ((mAr σ 30 3 (nI q)).1 64 - r3.1), r3.2.2.1, r3.2.2.2))) else none) _
    rw [show (3 : Int32).toNatClampNeg = 3 from by decide, s3, show (5314 : Int32) + nI q = nI (5314 + q) from n_add (p := 5314) (by omega)]
    refine Tm_chk (n_in (by omega) (by omega)) ?_
    rw [n_cl (p := 5314 + q) (by omega), o _ (by omega), hv]
    refine Tm_ob (s_size (σ := mAr σ 30 3 (nI q)) (HS_c hS rfl rfl q28) gv rfl) (fun r hr => ?_)
    rw [hr, q28]
    refine Tm_some ?_
    show (0, mSc (mAr σ 30 3 (nI q)) 64 (σ.1 64 - nI (szN (σ.2.2 28) v))) = _
    rw [h64, n_sub (by omega) le]
  · have sS : StS (mSc (mAr σ 30 3 (nI q)) 64 (nI (StS σ - szN (σ.2.2 28) v))) = StS σ - szN (σ.2.2 28) v := by
      have := suN_1 (f := szP (σ.2.2 28) (kC σ) (σ.2.2 30) 0) (g := szP (σ.2.2 28) (kC σ) ((mAr σ 30 3 (nI q)).2.2 30) 0) (i := 5314 + q) (n := 11514) (by omega) (fun j _ hj => by
        unfold szP
        have e : CtA (kC σ) ((mAr σ 30 3 (nI q)).2.2 30) 0 j ↔ CtA (kC σ) (σ.2.2 30) 0 j := by
          unfold CtA; rw [st, nu]
          constructor
          · intro z; exact ⟨z.1.1, z.2⟩
          · intro z; exact ⟨⟨z.1, by omega⟩, z.2⟩
        by_cases y : CtA (kC σ) (σ.2.2 30) 0 j
        · rw [if_pos y, if_pos (e.mpr y)]
          have : 0 + j ≠ 3 := by
            have y1 := y.1
            unfold StI at y1
            omega
          rw [o _ this]
        · rw [if_neg y, if_neg (fun z => y (e.mp z))])
      have g0 : szP (σ.2.2 28) (kC σ) ((mAr σ 30 3 (nI q)).2.2 30) 0 (5314 + q) = 0 := by
        unfold szP
        rw [if_neg (fun z => ((st _).mp z.1).2 (by omega))]
      rw [s0, g0] at this
      show SzS ((mAr σ 30 3 (nI q)).2.2 28) (kC (mAr σ 30 3 (nI q))) ((mAr σ 30 3 (nI q)).2.2 30) 0 = StS σ - szN (σ.2.2 28) v
      rw [q28, kC_r (σ := σ) (mAr_o (by decide)) (mAr_o (by decide)) rfl]
      unfold SzS StS SzS
      omega
    refine UT_30 (σ := σ) ⟨h64, P, h63, hP, h65, h32, hl, by assumption⟩ (fun a h1 _ => mAr_o h1) rfl rfl rfl (by rw [sS]; rfl) (Or.inl (by rw [sS]; omega)) (fun i h1 h2 => ?_) ?_
    · have h1 := (st i).mp h1
      show (mAr σ 30 3 (nI q)).2.2 30 i = 0
      have : i ≠ 3 := by
        have y1 := h1.1
        unfold StI at y1
        omega
      rw [o i this]
      exact UT_nu (σ := σ) ⟨h64, P, h63, hP, h65, h32, hl, by assumption⟩ i h1.1 ((nu i).mp h2)
    · exact CWa_c (UT_cw (σ := σ) ⟨h64, P, h63, hP, h65, h32, hl, by assumption⟩) (o _ (by omega)) (fun j h1 h2 => o _ (by omega))
/-- both drop an iterator -/
theorem E_dropIter (hI : EI t w XC σ1 σ2) (U1 : UT σ1) (U2 : UT σ2) (hq : q + 1 ≤ 3100) (h3 : σ1.2.2 30 3 = nI (q + 1)) {L1 L2 : Nat → Int32} : T2 (fun k => x_dropIter k 0 L1 σ1) (fun k => x_dropIter k 0 L2 σ2) (fun r1 r2 => EI t w XC r1.2 r2.2 ∧ UT r1.2 ∧ UT r2.2 ∧ FCt (fun i => i = 3) σ1 r1.2 ∧ FCt (fun i => i = 3) σ2 r2.2 ∧ r1.2.2.2 30 3 = nI q ∧ (∀ p, p ≤ q → ItS σ1 p → ItS r1.2 p)) := by
  have hI0 := hI
  obtain ⟨g1, l1, B1, h1, X1, g2, l2, B2, h2, X2, m1, m2, hR, _, _, t1, e1, e2, _⟩ := hI0
  have k3 : σ2.2.2 30 3 = nI (q + 1) := (hR.2.1 30 3 (by unfold AlR; omega) (by unfold Zn; omega) (InA_4 (by omega))).symm.trans h3
  have rt : RtP t σ1 30 (5314 + q) := Or.inr (Or.inl ⟨rfl, by unfold StI; rw [show (0 + 3) = 3 from rfl, h3, n_cl (p := q + 1) (by omega)]; omega⟩)
  obtain ⟨va, vb, va1, va2, va3, va4, va5, va6, va7⟩ := hR.1 30 (5314 + q) rt (by unfold VwR; omega)
  obtain ⟨a1, a2⟩ := s_dropIter m1.1 U1 hq h3 va1 va2 (L := L1)
  obtain ⟨b1, b2⟩ := s_dropIter m2.1 U2 hq k3 va3 va4 (L := L2)
  have eS : StS σ2 = StS σ1 := by
    have b1 := U1.1
    have b2 := U2.1
    obtain ⟨_, P1, _, _, _, _, l1, _⟩ := U1
    obtain ⟨_, P2, _, _, _, _, l2, _⟩ := U2
    exact (n_eq (by omega) (by omega)).mp (b2.symm.trans ((hR.2.2.1 64 (by unfold AlS; omega)).symm.trans b1))
  have sz := (EVb_sz va5).1
  refine T2_mono (T2_t a1 b1) (fun r1 r2 hr => ?_)
  rw [hr.1, hr.2]
  have o : ∀ (σ : MS) (x : Int32) j, j ≠ 3 → (mSc (mAr σ 30 3 (nI q)) 64 x).2.2 30 j = σ.2.2 30 j := fun σ x j hj => by
    show (mAr σ 30 3 (nI q)).2.2 30 j = _
    rw [mAr_s, upd_other hj]
  have s3 : ∀ (σ : MS) (x : Int32), (mSc (mAr σ 30 3 (nI q)) 64 x).2.2 30 3 = nI q := fun σ x => by
    show (mAr σ 30 3 (nI q)).2.2 30 3 = _
    rw [mAr_s, upd_same]
  have fc : ∀ (σ : MS) (x : Int32), FCt (fun i => i = 3) σ (mSc (mAr σ 30 3 (nI q)) 64 x) := fun σ x => FC_tr (FC_w rfl) (FC_fs (FS_sc (by omega)))
  refine ⟨?_, a2, b2, fc _ _, fc _ _, s3 _ _, fun p hp hI => ?_⟩
  · show EI t w XC (mSc (mAr σ1 30 3 (nI q)) 64 _) (mSc (mAr σ2 30 3 (nI q)) 64 _)
    rw [sz, eS]
    refine EI_mv hI (fun j hj => upd_other (by omega)) (fun j hj => upd_other (by omega)) rfl rfl (fun a _ h _ _ _ => mAr_o h) (fun a _ h _ _ _ => mAr_o h) t1 ?_ (fun j hj hn => ?_) (fun j hj hn => ?_) (fun j hn => ?_) (fun j hj => ?_) (fun a j ha z => ?_)
    · obtain ⟨P, e, y1, y2, y3, y4, ⟨c, n, z1, z2, z3, z4⟩, y6⟩ := m1.2.1
      exact ⟨P, e, y1, y2, y3, y4, ⟨c, q, (o σ1 _ _ (by omega)).trans z1, z2, s3 σ1 _, by omega⟩, y6⟩
    · by_cases e : j = 3
      · rw [e, s3, s3]
      · rw [o _ _ _ e, o _ _ _ e]
        refine hR.2.1 30 j (by unfold AlR; omega) hj (fun y => hn (InA_n30 (fun k hk => ?_) y))
        by_cases ek : k = 3
        · rw [ek, s3, h3, n_cl (p := q) (by omega), n_cl (p := q + 1) (by omega)]; omega
        · rw [o _ _ _ ek]; exact Nat.le_refl _
    · exact hR.2.1 31 j (by unfold AlR; omega) hj (fun y => hn (InA_31 (σ := σ1) rfl rfl y))
    · exact hR.2.1 32 j (by unfold AlR; omega) (by unfold Zn; omega) (fun y => hn (InA_32 (σ := σ1) rfl y))
    · by_cases e : j = 64
      · rw [e]; rfl
      · show upd σ1.1 64 _ j = upd σ2.1 64 _ j
        rw [upd_other e, upd_other e]; exact hR.2.2.1 j hj
    · have z' : RtP t σ1 a j := by
        rcases z with z | ⟨z, y⟩ | z
        · exact Or.inl z
        · refine Or.inr (Or.inl ⟨z, ?_⟩)
          unfold StI at y ⊢
          rw [show (0 + 3) = 3 from rfl, s3, o _ _ (0 + 1) (by omega), n_cl (p := q) (by omega)] at y
          rw [show (0 + 3) = 3 from rfl, h3, n_cl (p := q + 1) (by omega)]
          omega
        · exact Or.inr (Or.inr z)
      refine Or.inl ⟨a, j, by unfold VwR; omega, z', ?_, ?_⟩
      · by_cases e : a = 30
        · subst e
          rw [o _ _ _ (fun e => by have := Zn_rt m1.2.1 z' (by unfold AlR; omega); unfold Zn at this; omega)]
        · exact congrFun (mAr_o e) j
      · by_cases e : a = 30
        · subst e
          rw [o _ _ _ (fun e => by have := Zn_rt m1.2.1 z' (by unfold AlR; omega); unfold Zn at this; omega)]
        · exact congrFun (mAr_o e) j
  · exact ItS_c (σ := σ1) (by omega) (show (mAr σ1 30 3 (nI q)).2.2 28 = σ1.2.2 28 from mAr_o (by decide)) (fun i hi => o _ _ _ (by omega)) hI
end DRO
