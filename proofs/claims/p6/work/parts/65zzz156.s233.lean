/-! Statements on both sides (reference): a variable is written. -/
theorem n_mix {a b c : Nat} (h : a + b < 2147483648) (hc : c ≤ a + b) : nI a + (nI b - nI c) = nI (a + b - c) := by
  have e : nI a + (nI b - nI c) = (nI a + nI b) - nI c := by rw [Int32.sub_eq_add_neg, Int32.sub_eq_add_neg, Int32.add_assoc]
  rw [e, n_add h, n_sub h hc]
/-- slots that count (1 + s: of the program, 61 + s: of a proc's call) -/
def CnU (cn : Nat → Prop) (σ : MS) : Prop := (∀ s, s < 60 → cn (1 + s) → ¬ kC σ s = 0) ∧ ∀ s c, s < 60 → cn (61 + s) → σ.2.2 30 1 = nI c → 1 ≤ c → c ≤ 50 → ¬ kC σ (60 * (1 + (σ.2.2 30 (65 + 3 * (c - 1))).toNatClampNeg) + s) = 0
/-- what a statement stands on -/
def Sc1 (T : Nat → Nat → Int32) (FN : Nat → Nat → Prop) (lc cn : Nat → Prop) (σ : MS) : Prop := Sc0 T FN lc σ ∧ σ.1 69 = 0 ∧ CnU cn σ
/-- the place of a slot -/
def plc (T : Nat → Nat → Int32) (c n s : Nat) : Nat := if T 5 n = 0 then 4 + s else 214 + 60 * (c - 1) + s
/-- a name that is written -/
def NmW (T : Nat → Nat → Int32) (lc cn : Nat → Prop) (n s : Nat) : Prop := (1 ≤ n ∧ n < LNo T % 70001) ∧ T 6 n = nI s ∧ s < 60 ∧ (T 5 n = 0 ∨ lc 0) ∧ cn (if T 5 n = 0 then 1 + s else 61 + s)
/-- behind a piece of a statement -/
def SQ (b t w XC : Nat) (σ1 σ2 : MS) (r1 r2 : MS) : Prop := FSt σ1 r1 ∧ FSt σ2 r2 ∧ UT r1 ∧ UT r2 ∧ ((∃ w', w ≤ w' ∧ EI t w' XC r1 r2) ∨ (EZ t b r1 ∧ EZ t b r2))
section ASG
variable {T : Nat → Nat → Int32} {FN : Nat → Nat → Prop} {lc cn : Nat → Prop} {t w XC n s c : Nat} {σ σ1 σ2 ρ : MS}
theorem EI_s {j : Nat} {x : Int32} (hj : ¬ (j = 54 ∨ j = 55 ∨ j = 56 ∨ j = 57 ∨ j = 59 ∨ j = 63 ∨ j = 72 ∨ j = 95 ∨ j = 22 ∨ j = 24 ∨ j = 30 ∨ j = 44)) (hE : EI t w XC σ1 σ2) : EI t w XC (mSc σ1 j x) (mSc σ2 j x) := by
  obtain ⟨g1, l1, B1, h1, X1, g2, l2, B2, h2, X2, m1, m2, hR, i1, i2, t1, e1, e2, w1, hw, x1, x2, y, a, a1, a2⟩ := hE
  have n : ∀ {i : Nat}, ¬ i = j → ∀ σ : MS, (mSc σ j x).1 i = σ.1 i := fun h σ => upd_other h
  have c1 : ∀ σ : MS, (mSc σ j x).1 54 = σ.1 54 := n (by omega)
  have c2 : ∀ σ : MS, (mSc σ j x).1 55 = σ.1 55 := n (by omega)
  have c3 : ∀ σ : MS, (mSc σ j x).1 63 = σ.1 63 := n (by omega)
  have c4 : ∀ σ : MS, (mSc σ j x).1 72 = σ.1 72 := n (by omega)
  have c22 : ∀ σ : MS, (mSc σ j x).1 22 = σ.1 22 := n (by omega)
  have c24 : ∀ σ : MS, (mSc σ j x).1 24 = σ.1 24 := n (by omega)
  refine ⟨g1, l1, B1, h1, X1, g2, l2, B2, h2, X2, MI_c m1 (c1 _) (c2 _) (c3 _) (c4 _) rfl, MI_c m2 (c1 _) (c2 _) (c3 _) (c4 _) rfl, RA_c hR rfl rfl (c3 _) (c4 _) (c22 _) (c24 _) (n (i := 30) (by omega) _) (n (i := 44) (by omega) _) (fun i hi => ?_) hR.2.2.2, IT_c (c4 _) rfl rfl rfl i1, IT_c (c4 _) rfl rfl rfl i2, (n (i := 59) (by omega) _).trans t1, (n (i := 56) (by omega) _).trans e1, (n (i := 56) (by omega) _).trans e2, (n (i := 57) (by omega) _).trans w1, hw, x1, x2, y, a, (n (i := 95) (by omega) _).trans a1, a2⟩
  show upd σ1.1 j x i = upd σ2.1 j x i
  by_cases e : i = j
  · rw [e, upd_same, upd_same]
  · rw [upd_other e, upd_other e]; exact hR.2.2.1 i hi
theorem EZ_s {a b j : Nat} {x : Int32} (hj : ¬ (j = 54 ∨ j = 55 ∨ j = 56 ∨ j = 57 ∨ j = 59 ∨ j = 63 ∨ j = 72 ∨ j = 95)) (h : EZ a b σ) : EZ a b (mSc σ j x) := by
  obtain ⟨g, l, B, h', t, m, c1, c2, c3, c4, c5, ⟨w, c6, c6'⟩, ⟨c, c7, c8⟩⟩ := h
  have n : ∀ {i : Nat}, ¬ i = j → (mSc σ j x).1 i = σ.1 i := fun h => upd_other h
  refine ⟨g, l, B, h', t, MI_c m (n (by omega)) (n (by omega)) (n (by omega)) (n (by omega)) rfl, (n (by omega)).trans c1, c2, c3, ?_, ErB_c (n (by omega)) c5, ⟨w, (n (by omega)).trans c6, c6'⟩, ⟨c, (n (by omega)).trans c7, c8⟩⟩
  rw [n (i := 56) (by omega)]; exact c4
theorem CnU_fs (h : CnU cn σ) (hF : FSt σ ρ) : CnU cn ρ := by
  have e20 : ∀ i, kC ρ i = kC σ i := kC_c (fun i => hF.2.1 20 i (by unfold AlR; omega) (by unfold Zn; omega) (by omega)) (fun i _ => hF.2.1 21 i (by unfold AlR; omega) (by unfold Zn; omega) (by omega)) (hF.1 30 (by unfold AlS; omega) (by omega) (by omega) (by omega) (by omega))
  refine ⟨fun s hs z => by rw [e20]; exact h.1 s hs z, fun s c hs z e1 c1 c5 => ?_⟩
  rw [hF.2.1 30 1 (by unfold AlR; omega) (by unfold Zn; omega) (by omega)] at e1
  rw [e20, hF.2.1 30 (65 + 3 * (c - 1)) (by unfold AlR; omega) (by unfold Zn; omega) (by omega)]
  exact h.2 s c hs z e1 c1 c5
theorem Sc1_fs (h : Sc1 T FN lc cn σ) (hF : FSt σ ρ) : Sc1 T FN lc cn ρ := ⟨Sc0_fs h.1 hF, (hF.1 69 (by unfold AlS; omega) (by decide) (by decide) (by decide) (by decide)).trans h.2.1, CnU_fs h.2.2 hF⟩
theorem Sc1_ei (h : Sc1 T FN lc cn σ1) (hE : EI t w XC σ1 σ2) : Sc1 T FN lc cn σ2 := by
  refine ⟨Sc0_ei h.1 hE, ?_, ?_⟩
  · obtain ⟨g1, l1, B1, h1, X1, g2, l2, B2, h2, X2, _, _, hR, _⟩ := hE
    exact (hR.2.2.1 69 (by unfold AlS; omega)).symm.trans h.2.1
  · obtain ⟨g1, l1, B1, h1, X1, g2, l2, B2, h2, X2, _, _, hR, _⟩ := hE
    have e20 : ∀ i, kC σ2 i = kC σ1 i := kC_ra hR
    refine ⟨fun s hs z => by rw [e20]; exact h.2.2.1 s hs z, fun s c hs z e1 c1 c5 => ?_⟩
    rw [← hR.2.1 30 1 (by unfold AlR; omega) (by unfold Zn; omega) (InA_4 (by omega))] at e1
    rw [e20, ← hR.2.1 30 (65 + 3 * (c - 1)) (by unfold AlR; omega) (by unfold Zn; omega) (InA_cl e1 (by omega) (by omega))]
    exact h.2.2.2 s c hs z e1 c1 c5
/-- the totals read rows and three numbers -/
theorem UT_c {τ : MS} (h : UT σ) (a : τ.2.2 = σ.2.2) (h63 : τ.1 63 = σ.1 63) (h64 : τ.1 64 = σ.1 64) (h65 : τ.1 65 = σ.1 65) (hc : τ.1 30 = σ.1 30 := by first | rfl | assumption) : UT τ := by
  have k : kC τ = kC σ := kC_r (congrFun a 20) (congrFun a 21) hc
  unfold UT StS PtS NUo ItP szV at h ⊢
  rw [k, a, h63, h64, h65]; exact h
theorem FS_sc {j : Nat} {x : Int32} (hj : ¬ AlS j ∨ j = 57 ∨ j = 59 ∨ j = 95 ∨ j = 64) : FSt σ (mSc σ j x) := by
  refine ⟨fun i h1 h2 h3 h4 h5 => upd_other (fun e => ?_), fun _ _ _ _ _ => rfl, rfl, fun _ _ _ => rfl⟩
  subst e
  rcases hj with z | z
  · exact z h1
  · omega
/-- a place of a variable -/
theorem Nm_c (hS : Sc1 T FN lc cn σ) (hn : NmW T lc cn n s) : ∃ c, σ.2.2 30 1 = nI c ∧ c ≤ 50 ∧ (T 5 n = 0 ∨ 1 ≤ c) ∧ StI (σ.2.2 30) 0 (plc T c n s) ∧ CtA (kC σ) (σ.2.2 30) 0 (plc T c n s) ∧ PlV 30 (plc T c n s) := by
  obtain ⟨⟨hT, _, _, _, _, _, ⟨c, c1, c2, c3, _⟩, _⟩, h69, k1, k2⟩ := hS
  obtain ⟨n7, x6, hs, x5, hcn⟩ := hn
  have hc : T 5 n = 0 ∨ 1 ≤ c := by
    rcases x5 with z | z
    · exact Or.inl z
    · rcases c3 z with y | y
      · rw [h69] at y; exact absurd y (by decide)
      · exact Or.inr y.2
  refine ⟨c, c1, c2, hc, ?_⟩
  unfold plc
  by_cases z : T 5 n = 0
  · rw [if_pos z] at hcn ⊢
    have st : StI (σ.2.2 30) 0 (4 + s) := Or.inl ⟨by omega, by omega⟩
    refine ⟨st, ⟨by rw [Nat.zero_add]; exact st, ?_⟩, Or.inl ⟨rfl, by omega, by omega, by omega⟩⟩
    rintro (y | y)
    · exact k1 s hs hcn (by rw [show s = 4 + s - 4 by omega]; exact y.2.2)
    · omega
  · rw [if_neg z] at hcn ⊢
    have c1' := hc.resolve_left z
    have st : StI (σ.2.2 30) 0 (214 + 60 * (c - 1) + s) := by
      refine Or.inr (Or.inl ⟨by omega, ?_⟩)
      rw [Nat.zero_add, Nat.zero_add, c1, n_cl (p := c) (by omega)]; omega
    refine ⟨st, ⟨by rw [Nat.zero_add]; exact st, ?_⟩, Or.inl ⟨rfl, by omega, by omega, by omega⟩⟩
    rintro (y | y)
    · omega
    · refine k2 s c hs hcn c1 c1' c2 ?_
      have e1 : (214 + 60 * (c - 1) + s - 214) / 60 = c - 1 := by omega
      have e2 : (214 + 60 * (c - 1) + s - 214) % 60 = s := by omega
      have y := y.2.2
      rw [e1, e2, Nat.zero_add] at y
      exact y
/-- its value -/
theorem s_valS (hS : Sc1 T FN lc cn σ) (hn : NmW T lc cn n s) (hc : σ.2.2 30 1 = nI c) (h5 : c ≤ 50) {L : Nat → Int32} (d : L 1 = nI n) : Tm (fun k => x_valueOf k 0 L σ) (fun r => r = (σ.2.2 30 (plc T c n s), σ)) := by
  obtain ⟨c', c1, c2, c3, _⟩ := Nm_c hS hn
  have ec : c' = c := (n_eq (by omega) (by omega)).mp (c1.symm.trans hc)
  subst ec
  obtain ⟨⟨hT, _⟩, h69, _⟩ := hS
  obtain ⟨n7, x6, hs, _, _⟩ := hn
  have hin : ¬ (nI n < 0 ∨ 70000 ≤ (nI n).toNatClampNeg) := n_in (by omega) (by omega)
  unfold plc
  refine Tm_suc (fun k => by rw [x_valueOf]) ?_
  rw [d]
  refine Tm_chk hin ?_
  rw [n_cl (p := n) (by omega), hT.1 5 _ (by omega) (by omega) (by omega), hT.1 6 _ (by omega) (by omega) (by omega), x6]
  refine Tm_ite (fun z => ?_) (fun z => ?_)
  · rw [show (4 : Int32) + nI s = nI (4 + s) from n_add (p := 4) (by omega), if_pos z]
    refine Tm_chk (n_in3 (by omega) (by omega)) ?_
    refine Tm_chk (n_in (by omega) (by omega)) ?_
    rw [n_cl (p := 4 + s) (by omega)]
    exact Tm_some rfl
  · have hc1 := c3.resolve_left z
    rw [if_neg z]
    refine Tm_suc (fun k => by rw [x_valueOf]) ?_
    rw [h69]
    refine Tm_ite (fun _ => ?_) (fun z => absurd rfl z)
    refine Tm_suc (fun k => by rw [x_valueOf]) ?_
    rw [d, show (1 : Int32).toNatClampNeg = 1 from by decide, c1]
    refine Tm_chk (by decide) ?_
    refine Tm_chk hin ?_
    rw [n_cl (p := n) (by omega), hT.1 6 _ (by omega) (by omega) (by omega), x6, show nI c' - 1 = nI (c' - 1) from n_sub (p := c') (q := 1) (by omega) hc1, show (60 : Int32) * nI (c' - 1) = nI (60 * (c' - 1)) from n_mulN 60 (c' - 1), show (214 : Int32) + nI (60 * (c' - 1)) = nI (214 + 60 * (c' - 1)) from n_add (p := 214) (by omega), n_add (p := 214 + 60 * (c' - 1)) (by omega)]
    refine Tm_chk (n_in (by omega) (by omega)) ?_
    rw [n_cl (p := 214 + 60 * (c' - 1) + s) (by omega)]
    refine Tm_suc (fun k => by rw [x_valueOf]) ?_
    exact Tm_some rfl
theorem s_bndS (hS : Sc1 T FN lc cn σ) (hn : NmW T lc cn n s) (hc : σ.2.2 30 1 = nI c) (h5 : c ≤ 50) {L : Nat → Int32} (d : L 1 = nI n) : Tm (fun k => x_bindOne k 0 L σ) (fun r => r = (0, mAr σ 30 (plc T c n s) (L 2))) := by
  obtain ⟨n7, x6, hs, x5, _⟩ := hn
  obtain ⟨a, i, _, hp, hT⟩ := s_bindOne hS.1.1 hS.1.2 n7 x6 hs x5
  have e : a = 30 ∧ i = plc T c n s := by
    unfold plc
    rcases hp with ⟨z, e1, e2⟩ | ⟨z, _, e1, c', k1, k2, k3, e2⟩ | ⟨z, k, _⟩
    · rw [if_pos z]; exact ⟨e1, e2⟩
    · rw [if_neg z]
      have : c' = c := (n_eq (by omega) (by omega)).mp (k1.symm.trans hc)
      rw [← this]; exact ⟨e1, e2⟩
    · rw [hS.2.1] at k; exact absurd k (by decide)
  rw [e.1, e.2] at hT
  exact hT L d
/-- the totals behind a write -/
theorem UT_wr {g : Nat → Prop} {l : List Nat} {B h i m v : Nat} (hS : HS g l B h σ) (hU : UT σ) (hi : CtA (kC σ) (σ.2.2 30) 0 i) (hp : PlV 30 i) (hm : m < 3 ∨ g m) (ho : σ.2.2 30 i = nI v) (hv : v < 3 ∨ g v) (hle : StS σ + suN (PtS σ) (σ.1 63).toNatClampNeg - szN (σ.2.2 28) v + szN (σ.2.2 28) m ≤ 40000) : szN (σ.2.2 28) v ≤ StS σ ∧ UT (mAr (mSc σ 64 (nI (StS σ + szN (σ.2.2 28) m - szN (σ.2.2 28) v))) 30 i (nI m)) := by
  have bm := HS_vb hS hm
  have bv := HS_vb hS hv
  obtain ⟨h64, P, h63, hP, h65, h32, hl, o1, o2, o3, o4, o5⟩ := hU
  rw [h63, n_cl (p := P) (by omega)] at hle
  unfold PlV at hp
  have hi5 : i < 11514 := by omega
  have hw : ∀ j, j ≠ i → (upd (σ.2.2 30) i (nI m)) j = σ.2.2 30 j := fun j hj => upd_other hj
  have sz : ∀ j, szP (σ.2.2 28) (kC σ) (upd (σ.2.2 30) i (nI m)) 0 j = if j = i then szN (σ.2.2 28) m else szP (σ.2.2 28) (kC σ) (σ.2.2 30) 0 j := fun j => by
    by_cases e : j = i
    · rw [if_pos e, e]
      have c' : CtA (kC σ) (upd (σ.2.2 30) i (nI m)) 0 i := by
        refine ⟨(StI_c (hw _ (by omega)) (hw _ (by omega))).mpr hi.1, fun z => hi.2 ((NUa_c (fun j h1 h2 => hw _ (by omega))).mp z)⟩
      unfold szP
      rw [if_pos c', Nat.zero_add, upd_same, n_cl (by omega)]
    · rw [if_neg e]
      exact (szP_c (hw _ (by omega)) (hw _ (by omega)) (fun j h1 h2 => hw _ (by omega)) (fun _ => by rw [hw _ (by omega)])).2
  have s0 : szP (σ.2.2 28) (kC σ) (σ.2.2 30) 0 i = szN (σ.2.2 28) v := by
    unfold szP
    rw [if_pos hi, Nat.zero_add, ho, n_cl (by omega)]
  have le : szN (σ.2.2 28) v ≤ StS σ := by
    rw [← s0]; exact suN_le hi5
  have q1 : (mAr (mSc σ 64 (nI (StS σ + szN (σ.2.2 28) m - szN (σ.2.2 28) v))) 30 i (nI m)).2.2 30 = upd (σ.2.2 30) i (nI m) := mAr_s
  have q2 : ∀ a, a ≠ 30 → (mAr (mSc σ 64 (nI (StS σ + szN (σ.2.2 28) m - szN (σ.2.2 28) v))) 30 i (nI m)).2.2 a = σ.2.2 a := fun a ha => mAr_o ha
  generalize hr : mAr (mSc σ 64 (nI (StS σ + szN (σ.2.2 28) m - szN (σ.2.2 28) v))) 30 i (nI m) = ρ at q1 q2 ⊢
  have r64 : ρ.1 64 = nI (StS σ + szN (σ.2.2 28) m - szN (σ.2.2 28) v) := by rw [← hr]; rfl
  have r6 : ∀ j, j ≠ 64 → ρ.1 j = σ.1 j := fun j hj => by rw [← hr]; exact upd_other hj
  have sS : StS ρ = StS σ + szN (σ.2.2 28) m - szN (σ.2.2 28) v := by
    have := suN_1 (f := szP (σ.2.2 28) (kC σ) (σ.2.2 30) 0) (g := szP (σ.2.2 28) (kC σ) (upd (σ.2.2 30) i (nI m)) 0) (i := i) (n := 11514) hi5 (fun j _ hj => by rw [sz j, if_neg hj])
    rw [sz i, if_pos rfl, s0] at this
    unfold StS at le ⊢
    rw [q1, q2 28 (by decide), kC_r (q2 20 (by decide)) (q2 21 (by decide)) (r6 30 (by decide))]
    unfold SzS at le ⊢
    omega
  have sP : ∀ p, PtS ρ p = PtS σ p := fun p => by
    unfold PtS; rw [q2 28 (by decide), kC_r (q2 20 (by decide)) (q2 21 (by decide)) (r6 30 (by decide)), q2 31 (by decide)]
  have sP' : suN (PtS ρ) P = suN (PtS σ) P := suN_c (fun p _ => sP p)
  refine ⟨le, by rw [r64, sS], P, (r6 63 (by decide)).trans h63, hP, ?_, fun p hp => ?_, ?_, fun j c n => ?_, fun p hp j c n => ?_, fun j hj => ?_, ?_, fun p hp => ?_⟩
  · rw [r6 65 (by decide), sP']; exact h65
  · rw [q2 32 (by decide), sP]; exact h32 p hp
  · rw [sS, sP']; omega
  · rw [q1] at c n ⊢
    rw [kC_r (q2 20 (by decide)) (q2 21 (by decide)) (r6 30 (by decide))] at n
    have c' := (StI_c (hw _ (by omega)) (hw _ (by omega))).mp c
    have n' := (NUa_c (fun j h1 h2 => hw _ (by omega))).mp n
    by_cases e : j = i
    · rw [e] at n'; exact absurd n' hi.2
    · rw [upd_other e]; exact o1 j c' n'
  · rw [q2 31 (by decide)] at c n ⊢
    rw [kC_r (q2 20 (by decide)) (q2 21 (by decide)) (r6 30 (by decide))] at n
    exact o2 p hp j c n
  · rw [q2 33 (by decide)]; exact o3 j hj
  · rw [q1]; exact CWa_c o4 (hw _ (by omega)) (fun j h1 h2 => hw _ (by omega))
  · rw [q2 31 (by decide)]; exact ⟨(o5 p hp).1, ItP_c (q2 28 (by decide)) (fun j _ => by rw [q2 31 (by decide)]) (o5 p hp).2⟩
theorem FS_wr {i : Nat} {x y : Int32} (hp : PlV 30 i) : FSt σ (mAr (mSc σ 64 y) 30 i x) := by
  unfold PlV at hp
  refine ⟨fun j _ _ _ _ h5 => upd_other h5, fun a j ha hz _ => ?_, mAr_o (by decide), fun j hj c => ?_⟩
  · by_cases e : a = 30
    · subst e
      rw [mAr_s, upd_other (fun e => hz (by unfold Zn; omega))]; rfl
    · rw [mAr_o e]; rfl
  · unfold szV
    rw [mAr_s, mAr_o (by decide), upd_other (by omega)]; rfl
/-- a write leaves all rows but 30, and that from 3214 on -/
def ASr (σ ρ : MS) : Prop := (∀ a, a ≠ 30 → ρ.2.2 a = σ.2.2 a) ∧ ∀ i, 3214 ≤ i → ρ.2.2 30 i = σ.2.2 30 i
theorem AS_wr {i : Nat} {x y : Int32} (hp : PlV 30 i) : ASr σ (mAr (mSc σ 64 y) 30 i x) := by
  unfold PlV at hp
  refine ⟨fun a ha => mAr_o ha, fun j hj => ?_⟩
  rw [mAr_s, upd_other (by omega)]; rfl
/-- a variable is written: both do, or both have error 6 -/
theorem E_asg0 {g1 g2 : Nat → Prop} {l1 l2 : List Nat} {B1 h1 X1 B2 h2 X2 : Nat} (hX : XC ≤ 402000) (hS : Sc1 T FN lc cn σ1) (hE : EIx t w XC σ1 σ2 g1 l1 B1 h1 X1 g2 l2 B2 h2 X2) (hU1 : UT σ1) (hU2 : UT σ2) (hn : NmW T lc cn n s) {x y : Int32} (vc : VC g1 g2 (σ1.2.2 28) (σ2.2.2 28) x y) (hfin : ∀ (z : Int32) (i : Nat), PlV 30 i → EI t w XC (mAr (mSc σ1 64 z) 30 i x) (mAr (mSc σ2 64 z) 30 i y)) {L1 L2 : Nat → Int32} (d1 : L1 1 = nI n) (d2 : L2 1 = nI n) (x1 : L1 2 = x) (x2 : L2 2 = y) : T2 (fun k => x_assign k 0 L1 σ1) (fun k => x_assign k 0 L2 σ2) (fun r1 r2 => SQ t t w XC σ1 σ2 r1.2 r2.2 ∧ ASr σ1 r1.2 ∧ ASr σ2 r2.2) := by
  have hI : EI t w XC σ1 σ2 := ⟨g1, l1, B1, h1, X1, g2, l2, B2, h2, X2, hE⟩
  have hS2 := Sc1_ei hS hI
  obtain ⟨c, c1, c5, _, st, ct, pl⟩ := Nm_c hS hn
  obtain ⟨c', c1', c5', _, st2, ct2, _⟩ := Nm_c hS2 hn
  obtain ⟨m1, m2, hR, _, _, _, e1, e2, _⟩ := hE
  have ec : c' = c := (n_eq (by omega) (by omega)).mp (c1'.symm.trans ((hR.2.1 30 1 (by unfold AlR; omega) (by unfold Zn; omega) (InA_4 (by omega))).symm.trans c1))
  subst ec
  have al : ∀ j, AlS j → σ2.1 j = σ1.1 j := fun j h => (hR.2.2.1 j h).symm
  obtain ⟨va, vb, va1, va2, va3, va4, va5, va6, va7⟩ := hR.1 30 (plc T c' n s) (Or.inr (Or.inl ⟨rfl, st⟩)) (by unfold VwR; omega)
  obtain ⟨xa, xb, xa1, xa2, xa3, xa4, xa5, xa6, xa7⟩ := vc
  have so := (EVb_sz va5).1
  have sn := (EVb_sz xa5).1
  have bo := szN_b m1.1 va2
  have bn := szN_b m1.1 xa2
  have U1 := hU1
  have U2 := hU2
  obtain ⟨h64, P, h63, hP, h65, _, hl, _⟩ := U1
  obtain ⟨k64, P', k63, hP', k65, _, kl, _⟩ := U2
  have eS : StS σ2 = StS σ1 := (n_eq (by omega) (by omega)).mp (k64.symm.trans ((al 64 (by unfold AlS; omega)).trans h64))
  have eP : P' = P := (n_eq (by omega) (by omega)).mp (k63.symm.trans ((al 63 (by unfold AlS; omega)).trans h63))
  subst eP
  have eR : suN (PtS σ2) P' = suN (PtS σ1) P' := (n_eq (by omega) (by omega)).mp (k65.symm.trans ((al 65 (by unfold AlS; omega)).trans h65))
  have le : szN (σ1.2.2 28) va ≤ StS σ1 := by
    have : szP (σ1.2.2 28) (kC σ1) (σ1.2.2 30) 0 (plc T c' n s) = szN (σ1.2.2 28) va := by
      unfold szP
      rw [if_pos ct, Nat.zero_add, va1, n_cl (by omega)]
    rw [← this]
    exact suN_le (by unfold PlV at pl; omega)
  refine T2_suc (fun k => by rw [x_assign]) (fun k => by rw [x_assign]) ?_
  rw [e1, e2]
  refine T2_ite Iff.rfl (fun _ _ => ?_) (fun z _ => absurd (by decide) z)
  refine T2_suc (fun k => by rw [x_assign]) (fun k => by rw [x_assign]) ?_
  refine T2_ob (T2_t (s_valS hS hn c1 c5 d1) (s_valS hS2 hn c1' c5 d2)) (fun r1 r2 hr => ?_)
  rw [hr.1, hr.2]
  refine T2_ob (T2_t (s_size m1.1 va2 (by exact va1)) (s_size m2.1 va4 (by exact va3))) (fun r1 r2 hr => ?_)
  rw [hr.1, hr.2]
  refine T2_ob (T2_t (s_size m1.1 xa2 (by exact x1.trans xa1)) (s_size m2.1 xa4 (by exact x2.trans xa3))) (fun r1 r2 hr => ?_)
  rw [hr.1, hr.2, so, sn]
  have ar : σ1.1 64 + σ1.1 65 - nI (szN (σ1.2.2 28) va) + nI (szN (σ1.2.2 28) xa) = nI (StS σ1 + suN (PtS σ1) P' - szN (σ1.2.2 28) va + szN (σ1.2.2 28) xa) := by
    rw [h64, h65, n_add (by omega), n_sub (by omega) (by omega), n_add (by omega)]
  have ar2 : σ2.1 64 + σ2.1 65 - nI (szN (σ1.2.2 28) va) + nI (szN (σ1.2.2 28) xa) = nI (StS σ1 + suN (PtS σ1) P' - szN (σ1.2.2 28) va + szN (σ1.2.2 28) xa) := by
    rw [al 64 (by unfold AlS; omega), al 65 (by unfold AlS; omega)]; exact ar
  show T2 (fun k => if σ1.1 64 + σ1.1 65 - nI (szN (σ1.2.2 28) va) + nI (szN (σ1.2.2 28) xa) ≤ 40000 then x_assign k 2 (upd L1 3 (nI (szN (σ1.2.2 28) va))) σ1 else ob (x_fail k 0 (upd (fun _ => 0) 1 6) σ1) (fun r5 => some (0, r5.2))) (fun k => if σ2.1 64 + σ2.1 65 - nI (szN (σ1.2.2 28) va) + nI (szN (σ1.2.2 28) xa) ≤ 40000 then x_assign k 2 (upd L2 3 (nI (szN (σ1.2.2 28) va))) σ2 else ob (x_fail k 0 (upd (fun _ => 0) 1 6) σ2) (fun r5 => some (0, r5.2))) _
  rw [ar, ar2]
  refine T2_ite Iff.rfl (fun z _ => ?_) (fun _ _ => ?_)
  · have z := (n_le (q := 40000) (by omega) (by decide)).mp z
    obtain ⟨_, w1⟩ := UT_wr m1.1 hU1 ct pl xa2 va1 va2 (by rw [h63, n_cl (p := P') (by omega)]; exact z)
    obtain ⟨_, w2⟩ := UT_wr m2.1 hU2 ct2 pl xa4 va3 va4 (by rw [k63, n_cl (p := P') (by omega), eS, eR, so, sn]; exact z)
    refine T2_suc (fun k => by rw [x_assign]) (fun k => by rw [x_assign]) ?_
    refine T2_ob (T2_t (s_size m1.1 xa2 (by exact x1.trans xa1)) (s_size m2.1 xa4 (by exact x2.trans xa3))) (fun r1 r2 hr => ?_)
    rw [hr.1, hr.2, sn]
    rw [eS, so, sn] at w2
    have a64 : σ1.1 64 + (nI (szN (σ1.2.2 28) xa) - nI (szN (σ1.2.2 28) va)) = nI (StS σ1 + szN (σ1.2.2 28) xa - szN (σ1.2.2 28) va) := by rw [h64, n_mix (by omega) (by omega)]
    have b64 : σ2.1 64 + (nI (szN (σ1.2.2 28) xa) - nI (szN (σ1.2.2 28) va)) = nI (StS σ1 + szN (σ1.2.2 28) xa - szN (σ1.2.2 28) va) := by rw [al 64 (by unfold AlS; omega)]; exact a64
    show T2 (fun k => x_assign k 3 (upd L1 3 (nI (szN (σ1.2.2 28) va))) (mSc σ1 64 (σ1.1 64 + (nI (szN (σ1.2.2 28) xa) - nI (szN (σ1.2.2 28) va))))) (fun k => x_assign k 3 (upd L2 3 (nI (szN (σ1.2.2 28) va))) (mSc σ2 64 (σ2.1 64 + (nI (szN (σ1.2.2 28) xa) - nI (szN (σ1.2.2 28) va))))) _
    rw [a64, b64]
    have hI' : EI t w XC (mSc σ1 64 (nI (StS σ1 + szN (σ1.2.2 28) xa - szN (σ1.2.2 28) va))) (mSc σ2 64 (nI (StS σ1 + szN (σ1.2.2 28) xa - szN (σ1.2.2 28) va))) := EI_s (by omega) hI
    have F1 : FSt σ1 (mSc σ1 64 (nI (StS σ1 + szN (σ1.2.2 28) xa - szN (σ1.2.2 28) va))) := FS_sc (by omega)
    have F2 : FSt σ2 (mSc σ2 64 (nI (StS σ1 + szN (σ1.2.2 28) xa - szN (σ1.2.2 28) va))) := FS_sc (by omega)
    refine T2_suc (fun k => by rw [x_assign]) (fun k => by rw [x_assign]) ?_
    refine T2_ob (T2_t (s_bndS (Sc1_fs hS F1) hn (by exact c1) c5 d1) (s_bndS (Sc1_fs hS2 F2) hn (by exact c1') c5 d2)) (fun r1 r2 hr => ?_)
    rw [hr.1, hr.2]
    refine T2_some ⟨⟨FS_wr pl, FS_wr pl, ?_, ?_, Or.inl ⟨w, Nat.le_refl _, ?_⟩⟩, AS_wr pl, AS_wr pl⟩
    · show UT (mAr _ 30 _ (L1 2)); rw [x1, xa1]; exact w1
    · show UT (mAr _ 30 _ (L2 2)); rw [x2, xa3]; exact w2
    · show EI t w XC (mAr _ 30 _ (L1 2)) (mAr _ 30 _ (L2 2))
      rw [x1, x2]
      exact hfin _ _ pl
  · refine T2_ob (T2_t (s_fail _ _) (s_fail _ _)) (fun r1 r2 hr => ?_)
    rw [hr.1, hr.2]
    obtain ⟨z1, z2⟩ := E_er (a := t) (b := t) (e := 6) (by omega) hI (by omega) (by decide) (Nat.le_refl _) (Nat.le_refl _)
    exact T2_some ⟨⟨FS_fe FE_er, FS_fe FE_er, UT_c hU1 rfl (mEr_s (by decide)) (mEr_s (by decide)) (mEr_s (by decide)), UT_c hU2 rfl (mEr_s (by decide)) (mEr_s (by decide)) (mEr_s (by decide)), Or.inr ⟨z1, z2⟩⟩, ⟨fun _ _ => rfl, fun _ _ => rfl⟩, fun _ _ => rfl, fun _ _ => rfl⟩
theorem E_assX (hX : XC ≤ 402000) (hS : Sc1 T FN lc cn σ1) (hI : EI t w XC σ1 σ2) (hU1 : UT σ1) (hU2 : UT σ2) (hn : NmW T lc cn n s) {x y : Int32} (hx : ∀ (g1 : Nat → Prop) (l1 : List Nat) (B1 h1 X1 : Nat) (g2 : Nat → Prop) (l2 : List Nat) (B2 h2 X2 : Nat), EIx t w XC σ1 σ2 g1 l1 B1 h1 X1 g2 l2 B2 h2 X2 → VC g1 g2 (σ1.2.2 28) (σ2.2.2 28) x y ∧ (∃ m, x = nI m ∧ (m < 3 ∨ Rch (σ1.2.2 28) (RoS t σ1) m)) ∧ ∃ m, y = nI m ∧ (m < 3 ∨ Rch (σ2.2.2 28) (RoS t σ2) m)) {L1 L2 : Nat → Int32} (d1 : L1 1 = nI n) (d2 : L2 1 = nI n) (x1 : L1 2 = x) (x2 : L2 2 = y) : T2 (fun k => x_assign k 0 L1 σ1) (fun k => x_assign k 0 L2 σ2) (fun r1 r2 => SQ t t w XC σ1 σ2 r1.2 r2.2 ∧ ASr σ1 r1.2 ∧ ASr σ2 r2.2) := by
  have hI0 := hI
  obtain ⟨g1, l1, B1, h1, X1, g2, l2, B2, h2, X2, hE⟩ := hI0
  refine E_asg0 hX hS hE hU1 hU2 hn (hx g1 l1 B1 h1 X1 g2 l2 B2 h2 X2 hE).1 (fun z i pl => ?_) d1 d2 x1 x2
  have al := hE.2.2.1.2.2.1
  refine EI_bd (EI_s (by omega) hI) pl (fun g1 l1 B1 h1 X1 g2 l2 B2 h2 X2 hE => ?_)
  obtain ⟨m1, m2, hR, i1, i2, t1, e1, e2, w1, hw, x1, x2, ty, a, a1, a2⟩ := hE
  exact hx g1 l1 B1 h1 X1 g2 l2 B2 h2 X2 ⟨MI_c m1 rfl rfl rfl rfl rfl, MI_c m2 rfl rfl rfl rfl rfl, RA_c hR rfl rfl rfl rfl rfl rfl rfl rfl al hR.2.2.2, IT_c rfl rfl rfl rfl i1, IT_c rfl rfl rfl rfl i2, t1, e1, e2, w1, hw, x1, x2, ty, a, a1, a2⟩
theorem E_assign (hX : XC ≤ 402000) (hS : Sc1 T FN lc cn σ1) (hI : EI t w XC σ1 σ2) (hU1 : UT σ1) (hU2 : UT σ2) (hn : NmW T lc cn n s) {x y : Int32} (hx : ∀ (g1 : Nat → Prop) (l1 : List Nat) (B1 h1 X1 : Nat) (g2 : Nat → Prop) (l2 : List Nat) (B2 h2 X2 : Nat), EIx t w XC σ1 σ2 g1 l1 B1 h1 X1 g2 l2 B2 h2 X2 → VC g1 g2 (σ1.2.2 28) (σ2.2.2 28) x y ∧ (∃ m, x = nI m ∧ (m < 3 ∨ Rch (σ1.2.2 28) (RoS t σ1) m)) ∧ ∃ m, y = nI m ∧ (m < 3 ∨ Rch (σ2.2.2 28) (RoS t σ2) m)) {L1 L2 : Nat → Int32} (d1 : L1 1 = nI n) (d2 : L2 1 = nI n) (x1 : L1 2 = x) (x2 : L2 2 = y) : T2 (fun k => x_assign k 0 L1 σ1) (fun k => x_assign k 0 L2 σ2) (fun r1 r2 => SQ t t w XC σ1 σ2 r1.2 r2.2) := T2_mono (E_assX hX hS hI hU1 hU2 hn hx d1 d2 x1 x2) (fun r1 r2 hr => hr.1)
theorem mSc_c {j k : Nat} {x y : Int32} (h : j ≠ k) : mSc (mSc σ j x) k y = mSc (mSc σ k y) j x := by
  unfold mSc
  have : upd (upd σ.1 j x) k y = upd (upd σ.1 k y) j x := by
    funext i
    by_cases a : i = j
    · rw [a, upd_other h, upd_same, upd_same]
    · by_cases b : i = k
      · rw [b, upd_same, upd_other (Ne.symm h), upd_same]
      · rw [upd_other b, upd_other a, upd_other a, upd_other b]
  show (upd (upd σ.1 j x) k y, σ.2.1, σ.2.2) = _
  rw [this]
theorem mSc_self {j : Nat} {x : Int32} (h : σ.1 j = x) : mSc σ j x = σ := by
  unfold mSc
  have : upd σ.1 j x = σ.1 := by
    funext i
    by_cases a : i = j
    · rw [a, upd_same, h]
    · rw [upd_other a]
  rw [this]
/-- a value upon the pile is written, the top lies below it -/
theorem E_asgDP {u i : Nat} (hX : XC ≤ 402000) (hS : Sc1 T FN lc cn σ1) (hI : EI t w XC σ1 σ2) (hU1 : UT σ1) (hU2 : UT σ2) (hn : NmW T lc cn n s) (hu : u ≤ t) (hi : i < t) {L1 L2 : Nat → Int32} (d1 : L1 1 = nI n) (d2 : L2 1 = nI n) (x1 : L1 2 = σ1.2.2 29 i) (x2 : L2 2 = σ2.2.2 29 i) : T2 (fun k => x_assign k 0 L1 (mSc σ1 59 (nI u))) (fun k => x_assign k 0 L2 (mSc σ2 59 (nI u))) (fun r1 r2 => SQ u u w XC σ1 σ2 r1.2 r2.2 ∧ ASr σ1 r1.2) := by
  have hI0 := hI
  obtain ⟨g1, l1, B1, h1, X1, g2, l2, B2, h2, X2, hE⟩ := hI0
  have hv := hE.2.2.1.1 29 i (Or.inl ⟨rfl, hi⟩) (by unfold VwR; omega)
  have F1 : FSt σ1 (mSc σ1 59 (nI u)) := FS_sc (by omega)
  have F2 : FSt σ2 (mSc σ2 59 (nI u)) := FS_sc (by omega)
  have hE' : EIx u w XC (mSc σ1 59 (nI u)) (mSc σ2 59 (nI u)) g1 l1 B1 h1 X1 g2 l2 B2 h2 X2 := by
    obtain ⟨m1, m2, hR, i1, i2, t1, e1, e2, w1, hw, x1, x2, ty, a, a1, a2⟩ := hE
    exact ⟨MI_59 (MI_mo m1 hu), MI_59 (MI_mo m2 hu), RA_59 (RA_mo hu hR), IT_c rfl rfl rfl rfl i1, IT_c rfl rfl rfl rfl i2, rfl, e1, e2, w1, hw, x1, x2, ty, a, a1, a2⟩
  refine T2_mono (E_asg0 hX (Sc1_fs hS F1) hE' (UT_c hU1 rfl rfl rfl rfl) (UT_c hU2 rfl rfl rfl rfl) hn hv (fun z j pl => ?_) d1 d2 x1 x2) (fun r1 r2 hr => ⟨⟨FS_tr F1 hr.1.1, FS_tr F2 hr.1.2.1, hr.1.2.2⟩, hr.2.1⟩)
  have b := EI_bd (x := σ1.2.2 29 i) (y := σ2.2.2 29 i) (EI_s (j := 64) (x := z) (by omega) hI) pl (fun g1 l1 B1 h1 X1 g2 l2 B2 h2 X2 hE => ⟨hE.2.2.1.1 29 i (Or.inl ⟨rfl, hi⟩) (by unfold VwR; omega), MI_rt hE.1 (Or.inl ⟨rfl, hi⟩), MI_rt hE.2.1 (Or.inl ⟨rfl, hi⟩)⟩)
  have b' := EI_dn hu b
  have e : ∀ (σ : MS) (v : Int32), mAr (mSc (mSc σ 59 (nI u)) 64 z) 30 j v = mSc (mAr (mSc σ 64 z) 30 j v) 59 (nI u) := fun σ v => by
    rw [mSc_c (by decide)]; rfl
  rw [e, e]; exact b'
theorem E_asgD {u i : Nat} (hX : XC ≤ 402000) (hS : Sc1 T FN lc cn σ1) (hI : EI t w XC σ1 σ2) (hU1 : UT σ1) (hU2 : UT σ2) (hn : NmW T lc cn n s) (hu : u ≤ t) (hi : i < t) {L1 L2 : Nat → Int32} (d1 : L1 1 = nI n) (d2 : L2 1 = nI n) (x1 : L1 2 = σ1.2.2 29 i) (x2 : L2 2 = σ2.2.2 29 i) : T2 (fun k => x_assign k 0 L1 (mSc σ1 59 (nI u))) (fun k => x_assign k 0 L2 (mSc σ2 59 (nI u))) (fun r1 r2 => SQ u u w XC σ1 σ2 r1.2 r2.2) := T2_mono (E_asgDP hX hS hI hU1 hU2 hn hu hi d1 d2 x1 x2) (fun r1 r2 hr => hr.1)
end ASG
