/-! Statements on both sides (reference): an iterator of a for is opened. -/
section OPF
variable {T : Nat → Nat → Int32} {FN : Nat → Nat → Prop} {lc cn : Nat → Prop} {t w XC q : Nat} {σ ρ σ1 σ2 : MS}
/-- an iterator more in the state -/
def mOf (σ : MS) (t q : Nat) (z x : Int32) : MS := mAr (mAr (mAr (mSc (mSc σ 59 (nI t)) 64 z) 30 (5314 + q) x) 30 (8414 + q) 0) 30 3 (nI (q + 1))
theorem mOf_r {a t q : Nat} {z x : Int32} (h : a ≠ 30) : (mOf σ t q z x).2.2 a = σ.2.2 a := by
  unfold mOf
  rw [mAr_o h, mAr_o h, mAr_o h]; rfl
theorem mOf_o {t q i : Nat} {z x : Int32} (h : i ≠ 5314 + q ∧ i ≠ 8414 + q ∧ i ≠ 3) : (mOf σ t q z x).2.2 30 i = σ.2.2 30 i := by
  unfold mOf
  rw [mAr_s, upd_other h.2.2, mAr_s, upd_other h.2.1, mAr_s, upd_other h.1]; rfl
theorem mOf_3 {t q : Nat} {z x : Int32} : (mOf σ t q z x).2.2 30 3 = nI (q + 1) := by unfold mOf; rw [mAr_s, upd_same]
theorem mOf_v {t q : Nat} {z x : Int32} : (mOf σ t q z x).2.2 30 (5314 + q) = x := by
  unfold mOf
  rw [mAr_s, upd_other (by omega), mAr_s, upd_other (by omega), mAr_s, upd_same]
theorem mOf_i {t q : Nat} {z x : Int32} : (mOf σ t q z x).2.2 30 (8414 + q) = 0 := by
  unfold mOf
  rw [mAr_s, upd_other (by omega), mAr_s, upd_same]
theorem FC_of {t : Nat} {z x : Int32} (hq : q < 3100) : FCt (fun i => i = 3 ∨ i = 8414 + q) σ (mOf σ t q z x) := by
  refine ⟨fun j _ _ h3 _ h5 => ?_, fun a i h1 h2 _ h4 => ?_, mOf_r (by decide)⟩
  · show upd (upd σ.1 59 _) 64 _ j = _
    rw [upd_other h5, upd_other h3]
  · by_cases e : a = 30
    · subst e
      exact mOf_o ⟨fun e => h2 (by rw [e]; unfold Zn; omega), fun e => h4 ⟨rfl, Or.inr e⟩, fun e => h4 ⟨rfl, Or.inl e⟩⟩
    · rw [mOf_r e]
/-- the totals -/
theorem UT_of {g : Nat → Prop} {l : List Nat} {B h v : Nat} (hS : HS g l B h σ) (hU : UT σ) (hq : q < 3100) (h3 : σ.2.2 30 3 = nI q) (gv : v < 3 ∨ g v) (hle : ∀ P, σ.1 63 = nI P → P ≤ 20 → StS σ + szN (σ.2.2 28) v + suN (PtS σ) P ≤ 40000) : UT (mOf σ t q (nI (StS σ + szN (σ.2.2 28) v)) (nI v)) := by
  have bv := HS_vb hS gv
  have U := hU
  obtain ⟨h64, P, h63, hP, h65, h32, hl, _⟩ := U
  obtain ⟨c, c1, c2, c3⟩ := UT_cw hU
  have s64 : (mOf σ t q (nI (StS σ + szN (σ.2.2 28) v)) (nI v)).1 64 = nI (StS σ + szN (σ.2.2 28) v) := rfl
  have s63 : (mOf σ t q (nI (StS σ + szN (σ.2.2 28) v)) (nI v)).1 63 = σ.1 63 := rfl
  have s65 : (mOf σ t q (nI (StS σ + szN (σ.2.2 28) v)) (nI v)).1 65 = σ.1 65 := rfl
  have s30 : (mOf σ t q (nI (StS σ + szN (σ.2.2 28) v)) (nI v)).1 30 = σ.1 30 := rfl
  have r : ∀ a, a ≠ 30 → (mOf σ t q (nI (StS σ + szN (σ.2.2 28) v)) (nI v)).2.2 a = σ.2.2 a := fun a h => mOf_r h
  have o : ∀ i, i ≠ 5314 + q ∧ i ≠ 8414 + q ∧ i ≠ 3 → (mOf σ t q (nI (StS σ + szN (σ.2.2 28) v)) (nI v)).2.2 30 i = σ.2.2 30 i := fun i h => mOf_o h
  have n3 : (mOf σ t q (nI (StS σ + szN (σ.2.2 28) v)) (nI v)).2.2 30 3 = nI (q + 1) := mOf_3
  have nv : (mOf σ t q (nI (StS σ + szN (σ.2.2 28) v)) (nI v)).2.2 30 (5314 + q) = nI v := mOf_v
  generalize mOf σ t q (nI (StS σ + szN (σ.2.2 28) v)) (nI v) = ρ at *
  have st : ∀ j, StI (ρ.2.2 30) 0 j ↔ (StI (σ.2.2 30) 0 j ∨ j = 5314 + q) := fun j => by
    unfold StI
    rw [show (0 + 3) = 3 from rfl, n3, h3, o (0 + 1) (by omega), c1, n_cl (p := q) (by omega), n_cl (p := q + 1) (by omega), n_cl (p := c) (by omega)]
    omega
  have nu : ∀ j, NUa (kC σ) (ρ.2.2 30) 0 j ↔ NUa (kC σ) (σ.2.2 30) 0 j := fun j => NUa_m (fun j h1 h2 _ => o _ (by omega))
  have bi : ∀ j, StI (σ.2.2 30) 0 j → j ≠ 5314 + q ∧ j ≠ 8414 + q ∧ j ≠ 3 := fun j hj => by
    unfold StI at hj
    rw [show (0 + 3) = 3 from rfl, h3, c1, n_cl (p := q) (by omega), n_cl (p := c) (by omega)] at hj
    omega
  have ci : CtA (kC σ) (ρ.2.2 30) 0 (5314 + q) := ⟨(st _).mpr (Or.inr (by omega)), by rintro (z | z) <;> omega⟩
  have cn : ¬ CtA (kC σ) (σ.2.2 30) 0 (5314 + q) := fun z => (bi _ z.1).1 (by omega)
  have sS : StS ρ = StS σ + szN (σ.2.2 28) v := by
    have := suN_1 (f := szP (σ.2.2 28) (kC σ) (σ.2.2 30) 0) (g := szP (σ.2.2 28) (kC σ) (ρ.2.2 30) 0) (i := 5314 + q) (n := 11514) (by omega) (fun j _ hj => by
      unfold szP
      have e : CtA (kC σ) (ρ.2.2 30) 0 j ↔ CtA (kC σ) (σ.2.2 30) 0 j := by
        unfold CtA; rw [st, nu]
        constructor
        · intro z; exact ⟨z.1.resolve_right (by omega), z.2⟩
        · intro z; exact ⟨Or.inl z.1, z.2⟩
      by_cases y : CtA (kC σ) (σ.2.2 30) 0 j
      · rw [if_pos y, if_pos (e.mpr y), o _ (bi _ y.1)]
      · rw [if_neg y, if_neg (fun z => y (e.mp z))])
    have g0 : szP (σ.2.2 28) (kC σ) (ρ.2.2 30) 0 (5314 + q) = szN (σ.2.2 28) v := by
      unfold szP
      rw [if_pos ci, Nat.zero_add, nv, n_cl (by omega)]
    have f0 : szP (σ.2.2 28) (kC σ) (σ.2.2 30) 0 (5314 + q) = 0 := by unfold szP; rw [if_neg cn]
    rw [f0, g0] at this
    unfold StS
    rw [r 28 (by decide), kC_r (r 20 (by decide)) (r 21 (by decide)) s30]
    unfold SzS
    omega
  refine UT_30 hU (fun a h1 _ => r a h1) s63 s65 s30 (by rw [s64, sS]) (Or.inr (fun P h1 h2 => by rw [sS]; exact hle P h1 h2)) (fun i h1 h2 => ?_) (CWa_c ⟨c, c1, c2, c3⟩ (o _ (by omega)) (fun j h1 h2 => o _ (by omega)))
  have h2 := (nu i).mp h2
  rcases (st i).mp h1 with z | z
  · rw [o i (bi i z)]; exact UT_nu hU i z h2
  · rw [z] at h2
    rcases h2 with y | y <;> omega
/-- behind openFor -/
def OFq (b t w XC q : Nat) (σ1 σ2 : MS) (r1 r2 : Int32 × MS) : Prop := FCt (fun i => i = 3 ∨ i = 8414 + q) σ1 r1.2 ∧ FCt (fun i => i = 3 ∨ i = 8414 + q) σ2 r2.2 ∧ UT r1.2 ∧ UT r2.2 ∧ ((∃ w', w ≤ w' ∧ EI t w' XC r1.2 r2.2 ∧ r1.2.2.2 30 3 = nI (q + 1) ∧ ItS r1.2 (q + 1)) ∨ (EZ t b r1.2 ∧ EZ t b r2.2))
theorem E_openFor {e : Nat} (hX : XC ≤ 402000) (ht : t ≤ w + 17000) (hS : Sc1 T FN lc cn σ1) (hI : EI t w XC σ1 σ2) (U1 : UT σ1) (U2 : UT σ2) (he : (1 ≤ e ∧ e < LNo T % 70001)) (hW : Wx0 T FN lc (T 7 e)) (hq : q < 3100) (h3 : σ1.2.2 30 3 = nI q) (hIt : ItS σ1 q) {L1 L2 : Nat → Int32} (d1 : L1 1 = nI e) (d2 : L2 1 = nI e) : T2 (fun k => x_openFor k 0 L1 σ1) (fun k => x_openFor k 0 L2 σ2) (OFq 179300 t w XC q σ1 σ2) := by
  have hS2 := Sc1_ei hS hI
  refine T2_suc (fun k => by rw [x_openFor]) (fun k => by rw [x_openFor]) ?_
  rw [d1, d2]
  refine T2_chk (n_in (by omega) (by omega)) (n_in (by omega) (by omega)) ?_
  rw [n_cl (p := e) (by omega), hS.1.1.1 7 _ (by omega) (by omega) (by omega), hS2.1.1.1 7 _ (by omega) (by omega) (by omega)]
  refine T2_ob (E_eval hX ht hS.1 hW hI rfl rfl) (fun r1 r2 hr => ?_)
  obtain ⟨f1, f2, hr⟩ := hr
  have V1 := UT_fe f1 U1
  have V2 := UT_fe f2 U2
  rcases hr with ⟨w2, hw2, hJ⟩ | ⟨z1, z2⟩
  case inr =>
    refine T2_ite ⟨fun z => absurd z (EZ_le z1), fun z => absurd z (EZ_le z2)⟩ (fun z _ => absurd z (EZ_le z1)) (fun _ _ => ?_)
    exact T2_some ⟨FC_fe f1, FC_fe f2, V1, V2, Or.inr ⟨z1, z2⟩⟩
  obtain ⟨e1, e2⟩ := EI_e hJ
  rw [e1, e2]
  refine T2_ite Iff.rfl (fun _ _ => ?_) (fun z _ => absurd (by decide) z)
  have g3 : r1.2.2.2 30 3 = nI q := by rw [f1.2.1 30 3 (by unfold AlR; omega) (by unfold Zn; omega) (by omega)]; exact h3
  have it1 := ItS_fs (FS_fe f1) h3 (by omega) (Nat.le_refl _) hIt
  generalize r1.2 = τ1 at *
  generalize r2.2 = τ2 at *
  obtain ⟨t1, t2⟩ := EI_59 hJ
  have hJ0 := hJ
  have hD := EI_dn (show t ≤ t + 1 by omega) hJ
  obtain ⟨g1, l1, B1, h1, X1, g2, l2, B2, h2, X2, m1, m2, hR, _⟩ := hJ0
  obtain ⟨va, vb, va1, va2, va3, va4, va5, va6, va7⟩ := hR.1 29 t (Or.inl ⟨rfl, by omega⟩) (by unfold VwR; omega)
  have al : ∀ j, AlS j → τ2.1 j = τ1.1 j := fun j h => (hR.2.2.1 j h).symm
  have k3 : τ2.2.2 30 3 = nI q := (hR.2.1 30 3 (by unfold AlR; omega) (by unfold Zn; omega) (InA_4 (by omega))).symm.trans g3
  obtain ⟨sz, _, kd⟩ := EVb_sz va5
  have F1 : FE σ1 (mSc τ1 59 (nI t)) := FE_tr f1 (FE_sc (by omega))
  have F2 : FE σ2 (mSc τ2 59 (nI t)) := FE_tr f2 (FE_sc (by omega))
  refine T2_suc (fun k => by rw [x_openFor]) (fun k => by rw [x_openFor]) ?_
  refine T2_ob (T2_t (s_pop t1 (by omega) _) (s_pop t2 (by omega) _)) (fun y z hy => ?_)
  rw [hy.1, hy.2, va1, va3]
  refine T2_ob (T2_t (s_isRow (σ := mSc τ1 59 (nI t)) (HS_c m1.1 rfl rfl rfl) va2 rfl) (s_isRow (σ := mSc τ2 59 (nI t)) (HS_c m2.1 rfl rfl rfl) va4 rfl)) (fun y z hy => ?_)
  obtain ⟨⟨y1, y2⟩, ⟨z1, z2⟩⟩ := hy
  have y2 : (y.1 = 0 ∧ kdN (τ1.2.2 28) va < 4) ∨ (y.1 = 1 ∧ 4 ≤ kdN (τ1.2.2 28) va) := y2
  have z2 : (z.1 = 0 ∧ kdN (τ2.2.2 28) vb < 4) ∨ (z.1 = 1 ∧ 4 ≤ kdN (τ2.2.2 28) vb) := z2
  rw [kd] at z2
  rw [y1, z1]
  have fail : ∀ c : Nat, c ≤ 11 → ¬ nI c = 0 → T2 (fun k => ob (x_fail k 0 (upd (fun _ => 0) 1 (nI c)) (mSc τ1 59 (nI t))) (fun r => some (0, r.2))) (fun k => ob (x_fail k 0 (upd (fun _ => 0) 1 (nI c)) (mSc τ2 59 (nI t))) (fun r => some (0, r.2))) (OFq 179300 t w XC q σ1 σ2) := fun c c1 c2 => by
    refine T2_ob (T2_t (s_fail _ _) (s_fail _ _)) (fun y z hy => ?_)
    rw [hy.1, hy.2]
    obtain ⟨z1, z2⟩ := E_er (a := t) (b := 179300) (e := c) (by omega) hD c1 c2 (Nat.le_refl _) (by omega)
    exact T2_some ⟨FC_fe (FE_tr F1 FE_er), FC_fe (FE_tr F2 FE_er), UT_fe (FE_tr F1 FE_er) U1, UT_fe (FE_tr F2 FE_er) U2, Or.inr ⟨z1, z2⟩⟩
  refine T2_ite ?_ (fun y0 _ => ?_) (fun y0 _ => ?_)
  · rcases y2 with y2 | y2 <;> rcases z2 with z2 | z2
    · rw [y2.1, z2.1]
    · omega
    · omega
    · rw [y2.1, z2.1]
  · exact fail 1 (by omega) (by decide)
  have k4 : 4 ≤ kdN (τ1.2.2 28) va := by
    rcases y2 with y2 | y2
    · exact absurd y2.1 y0
    · exact y2.2
  have bs := szN_b m1.1 va2
  have W1 := V1
  have W2 := V2
  obtain ⟨h64, P, h63, hP, h65, _, hl, _⟩ := W1
  obtain ⟨k64, P', k63, hP', k65, _, kl, _⟩ := W2
  have eS : StS τ2 = StS τ1 := (n_eq (by omega) (by omega)).mp (k64.symm.trans ((al 64 (by unfold AlS; omega)).trans h64))
  have eP : P' = P := (n_eq (by omega) (by omega)).mp (k63.symm.trans ((al 63 (by unfold AlS; omega)).trans h63))
  subst eP
  have eR : suN (PtS τ2) P' = suN (PtS τ1) P' := (n_eq (by omega) (by omega)).mp (k65.symm.trans ((al 65 (by unfold AlS; omega)).trans h65))
  refine T2_suc (fun k => by rw [x_openFor]) (fun k => by rw [x_openFor]) ?_
  refine T2_ob (T2_t (s_size (σ := mSc τ1 59 (nI t)) (HS_c m1.1 rfl rfl rfl) va2 rfl) (s_size (σ := mSc τ2 59 (nI t)) (HS_c m2.1 rfl rfl rfl) va4 rfl)) (fun y z hy => ?_)
  rw [hy.1, hy.2]
  have ar : τ1.1 64 + τ1.1 65 + nI (szN (τ1.2.2 28) va) = nI (StS τ1 + suN (PtS τ1) P' + szN (τ1.2.2 28) va) := by
    rw [h64, h65, n_add (by omega), n_add (by omega)]
  have ar2 : τ2.1 64 + τ2.1 65 + nI (szN (τ1.2.2 28) va) = nI (StS τ1 + suN (PtS τ1) P' + szN (τ1.2.2 28) va) := by
    rw [al 64 (by unfold AlS; omega), al 65 (by unfold AlS; omega)]; exact ar
  have sz' : szN ((mSc τ2 59 (nI t)).2.2 28) vb = szN (τ1.2.2 28) va := sz
  show T2 (fun k => if τ1.1 64 + τ1.1 65 + nI (szN (τ1.2.2 28) va) ≤ 40000 then x_openFor k 3 (upd L1 2 (nI va)) (mSc τ1 59 (nI t)) else ob (x_fail k 0 (upd (fun _ => 0) 1 6) (mSc τ1 59 (nI t))) (fun r3 => some (0, r3.2))) (fun k => if τ2.1 64 + τ2.1 65 + nI (szN ((mSc τ2 59 (nI t)).2.2 28) vb) ≤ 40000 then x_openFor k 3 (upd L2 2 (nI vb)) (mSc τ2 59 (nI t)) else ob (x_fail k 0 (upd (fun _ => 0) 1 6) (mSc τ2 59 (nI t))) (fun r3 => some (0, r3.2))) _
  rw [sz', ar, ar2]
  refine T2_ite Iff.rfl (fun le _ => ?_) (fun _ _ => fail 6 (by omega) (by decide))
  have le := (n_le (q := 40000) (by omega) (by decide)).mp le
  -- the end
  have tail : ∀ (τ : MS) (v : Nat) (L : Nat → Int32) (g : Nat → Prop) (l : List Nat) (B h : Nat), HS g l B h τ → (v < 3 ∨ g v) → τ.1 64 = nI (StS τ) → StS τ ≤ 40000 → szN (τ.2.2 28) v ≤ 1000 → τ.2.2 30 3 = nI q → L 2 = nI v → Tm (fun k => x_openFor k 3 L (mSc τ 59 (nI t))) (fun r => r = (0, mOf τ t q (nI (StS τ + szN (τ.2.2 28) v)) (nI v))) := by
    intro τ v L g l B h hS gv h64 hle hsz h3 d
    refine Tm_suc (fun k => by rw [x_openFor]) ?_
    refine Tm_ob (s_size (σ := mSc τ 59 (nI t)) (HS_c hS rfl rfl rfl) gv (by exact d)) (fun r hr => ?_)
    rw [hr]
    show Tm (fun k => x_openFor k 4 L (mSc (mSc τ 59 (nI t)) 64 (τ.1 64 + nI (szN (τ.2.2 28) v)))) _
    rw [h64, n_add (by omega)]
    refine Tm_suc (fun k => by rw [x_openFor]) ?_
    refine Tm_chk (by decide) ?_
    show Tm (fun k => if ¬ (5314 + τ.2.2 30 (3 : Int32).toNatClampNeg < 0 ∨ 11514 ≤ (5314 + τ.2.2 30 (3 : Int32).toNatClampNeg).toNatClampNeg) then x_openFor k 5 L (mAr (mSc (mSc τ 59 (nI t)) 64 (nI (StS τ + szN (τ.2.2 28) v))) 30 (5314 + τ.2.2 30 (3 : Int32).toNatClampNeg).toNatClampNeg (L 2)) else none) _
    rw [show (3 : Int32).toNatClampNeg = 3 from by decide, h3, show (5314 : Int32) + nI q = nI (5314 + q) from n_add (p := 5314) (by omega)]
    refine Tm_chk (n_in (by omega) (by omega)) ?_
    rw [n_cl (p := 5314 + q) (by omega), d]
    have y3 : (mAr (mSc (mSc τ 59 (nI t)) 64 (nI (StS τ + szN (τ.2.2 28) v))) 30 (5314 + q) (nI v)).2.2 30 3 = nI q := by
      rw [mAr_s, upd_other (by omega)]; exact h3
    refine Tm_suc (fun k => by rw [x_openFor]) ?_
    refine Tm_chk (by decide) ?_
    rw [show (3 : Int32).toNatClampNeg = 3 from by decide, y3, show (8414 : Int32) + nI q = nI (8414 + q) from n_add (p := 8414) (by omega)]
    refine Tm_chk (n_in (by omega) (by omega)) ?_
    rw [n_cl (p := 8414 + q) (by omega)]
    have y4 : (mAr (mAr (mSc (mSc τ 59 (nI t)) 64 (nI (StS τ + szN (τ.2.2 28) v))) 30 (5314 + q) (nI v)) 30 (8414 + q) 0).2.2 30 3 = nI q := by
      rw [mAr_s, upd_other (by omega)]; exact y3
    refine Tm_suc (fun k => by rw [x_openFor]) ?_
    refine Tm_chk (by decide) ?_
    refine Tm_chk (by decide) ?_
    show Tm (fun k => some (0, mAr (mAr (mAr (mSc (mSc τ 59 (nI t)) 64 (nI (StS τ + szN (τ.2.2 28) v))) 30 (5314 + q) (nI v)) 30 (8414 + q) 0) 30 (3 : Int32).toNatClampNeg ((mAr (mAr (mSc (mSc τ 59 (nI t)) 64 (nI (StS τ + szN (τ.2.2 28) v))) 30 (5314 + q) (nI v)) 30 (8414 + q) 0).2.2 30 (3 : Int32).toNatClampNeg + 1))) _
    rw [show (3 : Int32).toNatClampNeg = 3 from by decide, y4, n_add1]
    exact Tm_some rfl
  refine T2_mono (T2_t (tail τ1 va _ g1 l1 B1 h1 m1.1 va2 h64 (by omega) (by omega) g3 rfl) (tail τ2 vb _ g2 l2 B2 h2 m2.1 va4 k64 (by omega) (by rw [sz]; omega) k3 rfl)) (fun y z hy => ?_)
  rw [hy.1, hy.2, sz, eS]
  have w1 := UT_of (t := t) m1.1 V1 hq g3 va2 (fun P h1 h2 => by
    have : P = P' := (n_eq (by omega) (by omega)).mp (h1.symm.trans h63)
    rw [this]; omega)
  have w2' := UT_of (t := t) m2.1 V2 hq k3 va4 (fun P h1 h2 => by
    have : P = P' := (n_eq (by omega) (by omega)).mp (h1.symm.trans k63)
    rw [this, eS, eR, sz]; omega)
  rw [sz, eS] at w2'
  refine ⟨FC_tr (FC_fe f1) (FC_of hq), FC_tr (FC_fe f2) (FC_of hq), w1, w2', Or.inl ⟨w2, hw2, ?_, mOf_3, ?_⟩⟩
  · refine EI_mv hJ (fun j hj => ?_) (fun j hj => ?_) rfl rfl (fun a _ h _ _ _ => mOf_r h) (fun a _ h _ _ _ => mOf_r h) rfl ?_ (fun j hj hn => ?_) (fun j hj hn => ?_) (fun j hn => ?_) (fun j hj => ?_) (fun a j ha z => ?_)
    · show upd (upd τ1.1 59 _) 64 _ j = _
      rw [upd_other (by omega), upd_other (by omega)]
    · show upd (upd τ2.1 59 _) 64 _ j = _
      rw [upd_other (by omega), upd_other (by omega)]
    · obtain ⟨P, e, y1, y2, y3, y4, ⟨c, n, z1, z2, z3, z4⟩, y6⟩ := m1.2.1
      refine ⟨P, e, y1, y2, y3, y4, ⟨c, q + 1, (mOf_o (by omega)).trans z1, z2, mOf_3, by omega⟩, ?_⟩
      rw [mOf_r (by decide)]; exact y6
    · by_cases e3 : j = 3
      · rw [e3, mOf_3, mOf_3]
      · by_cases e8 : j = 8414 + q
        · rw [e8, mOf_i, mOf_i]
        · have e5 : j ≠ 5314 + q := fun e => hj (by rw [e]; unfold Zn; omega)
          rw [mOf_o ⟨e5, e8, e3⟩, mOf_o ⟨e5, e8, e3⟩]; 
          refine hR.2.1 30 j (by unfold AlR; omega) hj (fun y => hn ?_)
          unfold InA at y ⊢
          rcases y with y | y
          · refine Or.inl ⟨rfl, ?_⟩
            have y := y.2
            unfold IaN at y ⊢
            rw [Nat.zero_add, Nat.zero_add, Nat.zero_add] at y ⊢
            rw [g3, n_cl (p := q) (by omega)] at y
            rw [mOf_3, mOf_o (i := 1) (by omega), mOf_o (i := 2) (by omega), n_cl (p := q + 1) (by omega)]
            omega
          · omega
    · rw [mOf_r (by decide), mOf_r (by decide)]; exact hR.2.1 31 j (by unfold AlR; omega) hj (fun y => hn (InA_31 (σ := τ1) rfl (mOf_r (by decide)) y))
    · rw [mOf_r (by decide), mOf_r (by decide)]; exact hR.2.1 32 j (by unfold AlR; omega) (by unfold Zn; omega) (fun y => hn (InA_32 (σ := τ1) rfl y))
    · show upd (upd τ1.1 59 _) 64 _ j = upd (upd τ2.1 59 _) 64 _ j
      by_cases e4 : j = 64
      · rw [e4, upd_same, upd_same]
      · by_cases e5 : j = 59
        · rw [e5]; rfl
        · rw [upd_other e4, upd_other e4, upd_other e5, upd_other e5]; exact hR.2.2.1 j hj
    · by_cases e5 : a = 30 ∧ j = 5314 + q
      · refine Or.inl ⟨29, t, by unfold VwR; omega, Or.inl ⟨rfl, by omega⟩, ?_, ?_⟩
        · rw [e5.1, e5.2, mOf_v, va1]
        · rw [e5.1, e5.2, mOf_v, va3]
      · have z' : RtP (t + 1) τ1 a j := by
          rcases z with z | ⟨z, y⟩ | ⟨z, p, hp, y⟩ | z | z
          · exact Or.inl ⟨z.1, by omega⟩
          · refine Or.inr (Or.inl ⟨z, ?_⟩)
            unfold StI at y ⊢
            rw [show (0 + 3) = 3 from rfl, mOf_3, mOf_o (i := 0 + 1) (by omega), n_cl (p := q + 1) (by omega)] at y
            rw [show (0 + 3) = 3 from rfl, g3, n_cl (p := q) (by omega)]
            omega
          · refine Or.inr (Or.inr (Or.inl ⟨z, p, hp, ?_⟩))
            rw [mOf_r (by decide)] at y; exact y
          · exact Or.inr (Or.inr (Or.inr (Or.inl z)))
          · have : a = 34 ∨ a = 36 ∨ a = 37 ∨ a = 38 ∨ a = 40 := by omega
            omega
        have o : ∀ (τ : MS) (z x : Int32), (mOf τ t q z x).2.2 a j = τ.2.2 a j := fun τ z x => by
          by_cases e : a = 30
          · subst e
            have zn := Zn_rt m1.2.1 z' (by unfold AlR; omega)
            exact mOf_o ⟨fun e => e5 ⟨rfl, e⟩, fun e => by unfold Zn at zn; omega, fun e => by unfold Zn at zn; omega⟩
          · rw [mOf_r e]
        exact Or.inl ⟨a, j, by unfold VwR; omega, z', o _ _ _, o _ _ _⟩
  · intro i hi
    by_cases e : i = q
    · subst e
      unfold szV
      rw [mOf_r (by decide), mOf_v, mOf_i, n_cl (p := va) (by omega)]
      have gv := kdN_ge m1.1 va2 (by omega)
      obtain ⟨k, n, s, hh, go, b1, b2⟩ := HS_at m1.1 gv
      refine ⟨k4, n, 0, ?_, go.2.2.2.2.2.2.2.1, rfl, by omega⟩
      show (if va < 3 then 0 else τ1.2.2 28 (va + 1)) = nI n
      rw [if_neg (by omega)]; exact go.2.1
    · have := it1 i (by omega)
      unfold szV at this ⊢
      rw [mOf_r (by decide), mOf_o (i := 5314 + i) (by omega), mOf_o (i := 8414 + i) (by omega)]
      exact this
/-- the i-th of a list -/
def nxt (T : Nat → Nat → Int32) : Nat → Int32 → Int32
  | 0, x => x
  | i + 1, x => nxt T i (T 9 x.toNatClampNeg)
/-- the i-th iterator of a for -/
theorem s_iterOf {k : Nat} {x : Int32} (hT : ∀ a i, 4 ≤ a → a ≤ 11 → ((a ≤ 9 → (1 ≤ i ∧ i < LNo T % 70001)) ∧ (10 ≤ a → i < SNo T % 402)) → σ.2.2 a i = T a i) {m i : Nat} (hm : (1 ≤ m ∧ m < LNo T % 70001)) (hL : ItL T FN lc cn k (T 5 m)) (hi : i < k) {L : Nat → Int32} (d1 : L 1 = nI m) (d2 : L 2 = nI i) (hk : k ≤ 100) : Tm (fun n => x_iterOf n 0 L σ) (fun r => r.2 = σ ∧ r.1 = nxt T i (T 5 m) ∧ ∃ e, r.1 = nI e ∧ (1 ≤ e ∧ e < LNo T % 70001) ∧ (∃ q, 1 ≤ q ∧ q ≤ 60 ∧ NmL T lc cn q (T 6 e)) ∧ Wx0 T FN lc (T 7 e) ∧ ItL T FN lc cn (k - i - 1) (T 9 e)) := by
  have lp : ∀ (d j : Nat) (x : Int32) (N : Nat → Int32), d + j = i → ItL T FN lc cn (k - j) x → N 2 = nI i → N 3 = x → N 4 = nI j → Tm (fun n => x_iterOf n 1 N σ) (fun r => r.2 = σ ∧ r.1 = nxt T d x ∧ ∃ e, r.1 = nI e ∧ (1 ≤ e ∧ e < LNo T % 70001) ∧ (∃ q, 1 ≤ q ∧ q ≤ 60 ∧ NmL T lc cn q (T 6 e)) ∧ Wx0 T FN lc (T 7 e) ∧ ItL T FN lc cn (k - i - 1) (T 9 e)) := by
    intro d
    induction d with
    | zero =>
      intro j x N hj hx n2 n3 n4
      have e : j = i := by omega
      subst e
      refine Tm_suc (fun n => by rw [x_iterOf]) ?_
      rw [n2, n4]
      refine Tm_ite (fun _ => ?_) (fun z => absurd (Int32.le_refl _) z)
      refine Tm_suc (fun n => by rw [x_iterOf]) ?_
      rw [n3]
      obtain ⟨c, ec⟩ : ∃ c, k - j = c + 1 := ⟨k - j - 1, by omega⟩
      rw [ec] at hx
      obtain ⟨e, xe, he, h1, h2, h3⟩ := hx
      exact Tm_some ⟨rfl, rfl, e, xe, he, h1, h2, by rw [show k - j - 1 = c by omega]; exact h3⟩
    | succ d ih =>
      intro j x N hj hx n2 n3 n4
      obtain ⟨c, ec⟩ : ∃ c, k - j = c + 1 := ⟨k - j - 1, by omega⟩
      rw [ec] at hx
      obtain ⟨e, xe, he, h1, h2, h3⟩ := hx
      refine Tm_suc (fun n => by rw [x_iterOf]) ?_
      rw [n2, n3, n4, xe]
      refine Tm_ite (fun z => ?_) (fun _ => ?_)
      · have := (n_le (by omega) (by omega)).mp z
        omega
      refine Tm_chk (n_in (by omega) (by omega)) ?_
      rw [n_cl (p := e) (by omega), hT 9 _ (by omega) (by omega) (by omega), n_add1]
      have en : nxt T (d + 1) (nI e) = nxt T d (T 9 e) := by
        show nxt T d (T 9 (nI e).toNatClampNeg) = _
        rw [n_cl (p := e) (by omega)]
      rw [en]
      exact ih (j + 1) (T 9 e) _ (by omega) (by rw [show k - (j + 1) = c by omega]; exact h3) n2 rfl rfl
  refine Tm_suc (fun n => by rw [x_iterOf]) ?_
  rw [d1]
  refine Tm_chk (n_in (by omega) (by omega)) ?_
  rw [n_cl (p := m) (by omega), hT 5 _ (by omega) (by omega) (by omega)]
  exact lp i 0 (T 5 m) _ rfl hL d2 rfl rfl
end OPF
