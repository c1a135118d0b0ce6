/-! Evaluation on both sides (reference): new atoms, single operations, ranges, choices. -/
section EBH
variable {T : Nat → Nat → Int32} {FN : Nat → Nat → Prop} {O r K d t w XC : Nat} {lc : Nat → Prop} {σ1 σ2 : MS}
theorem b_new (hP : PC T FN O r K lc d t w XC σ1) (hI : EI t w XC σ1 σ2) {b e : Nat} (hb : 178000 ≤ b) {L1 L2 : Nat → Int32} : T2 (fun k => x_GV k e 0 7 L1 σ1) (fun k => x_GV k e 0 7 L2 σ2) (EQ b t w XC σ1 σ2) := by
  have ht := PC_t hP
  have hXC := hP.2.1
  refine T2_suc (fun k => e_begins_7 k _ _ _) (fun k => e_begins_7 k _ _ _) ?_
  refine T2_ob (E_sw hXC (by omega) hI) (fun r1 r2 hr => ?_)
  obtain ⟨k1, k2, g1, l1, B1, h1, X1, g2, l2, B2, h2, X2, hX, rm1, rm2⟩ := hr
  obtain ⟨a1, a2, aR, i1, i2, t1, q1, q2, w1, hw, x1, x2, ⟨ty1, ty2⟩, a, z1, z2⟩ := hX
  have al : ∀ j, AlS j → r2.2.1 j = r1.2.1 j := fun j h => (aR.2.2.1 j h).symm
  have t2 : r2.2.1 59 = nI t := (al 59 (by unfold AlS; omega)).trans t1
  have w2 : r2.2.1 57 = nI w := (al 57 (by unfold AlS; omega)).trans w1
  have z3 : r2.2.1 95 = nI a := (al 95 (by unfold AlS; omega)).trans z1
  have P1 : VP g1 l1 B1 h1 t r1.2 := ⟨a1.1, t1, by omega, ⟨0, q1, by decide⟩⟩
  have P2 : VP g2 l2 B2 h2 t r2.2 := ⟨a2.1, t2, by omega, ⟨0, q2, by decide⟩⟩
  refine T2_ob (T2_of (s_newAtom P1 z2 z1 _) (s_newAtom P2 z2 z3 _) (fun n => Pm_wl (fun k => wl_newAtom k _ _ _) (fun k => wl_newAtom k _ _ _) (k_newAtom a1.1 a2.1 q1 q2 (by omega) (by omega) z2 z1 z3 _ _))) (fun s1 s2 hs => ?_)
  obtain ⟨⟨⟨hq, h95⟩, wl1, wl2⟩, o1, o2⟩ := hs
  have h96 : s1.2.2.1 96 = s2.2.2.1 96 := by rw [wl1, wl2]; exact aR.2.2.2
  rcases o1 with ⟨c1, o1⟩ | ⟨c1, o1⟩
  · rcases o2 with ⟨_, o2⟩ | ⟨c2, _⟩
    case inr => omega
    have v1 : VO g1 B1 h1 t r1.2 s1 := by rw [o1]; exact VO_er P1 (e := 6) (by decide)
    have v2 : VO g2 B2 h2 t r2.2 s2 := by rw [o2]; exact VO_er P2 (e := 6) (by decide)
    have y95 : s1.2.1 95 = nI a := by rw [o1]; exact (mEr_s (by decide)).trans z1
    have p57 : s1.2.1 57 = s2.2.1 57 := by
      rw [o1, o2]
      show (mEr r1.2 (nI 6)).1 57 = (mEr r2.2 (nI 6)).1 57
      rw [mEr_s (by decide), mEr_s (by decide), w1, w2]
    exact E_ans a1 a2 aR i1 i2 (by omega) ty1 ty2 ⟨a, y95, z2⟩ h95 (SO_of (W := 0) (by omega) a1 w1 hw.1 x1 (VQ_of v1)) (SO_of (W := 0) (by omega) a2 w2 hw.1 x2 (VQ_of v2)) ⟨KR_of (c := 8600) (VO_54 v1) (VO_54 v2) (by omega) hq p57, h96⟩ (fun v1 v2 f1 f2 h => T2_some (EQ_ans k1 k2 (Nat.le_refl _) (by omega) f1 f2 h))
  · rcases o2 with ⟨c2, _⟩ | ⟨_, o2⟩
    case inl => omega
    have m1 : MI t X1 g1 l1 B1 h1 (mSc r1.2 95 (nI (a + 1))) := MI_c a1 rfl rfl rfl rfl rfl
    have m2 : MI t X2 g2 l2 B2 h2 (mSc r2.2 95 (nI (a + 1))) := MI_c a2 rfl rfl rfl rfl rfl
    have mR : RA t g1 g2 (mSc r1.2 95 (nI (a + 1))) (mSc r2.2 95 (nI (a + 1))) := by
      refine RA_c aR rfl rfl rfl rfl rfl rfl rfl rfl (fun j hj => ?_) aR.2.2.2
      show upd r1.2.1 95 (nI (a + 1)) j = upd r2.2.1 95 (nI (a + 1)) j
      by_cases e : j = 95
      · rw [e, upd_same, upd_same]
      · rw [upd_other e, upd_other e]; exact aR.2.2.1 j hj
    have f95 : ∀ σ : MS, FE σ (mSc σ 95 (nI (a + 1))) := fun σ => FE_sc (Or.inr (Or.inr (Or.inr rfl)))
    have o1' := o1
    have o2' := o2
    obtain ⟨_, _, _, _, fw1, _⟩ := o1'
    obtain ⟨_, _, _, _, fw2, _⟩ := o2'
    have p57 : s1.2.1 57 = s2.2.1 57 := by
      rw [fw1.1 57 (by decide), fw2.1 57 (by decide)]
      exact w1.trans w2.symm
    exact E_ans m1 m2 mR (IT_c rfl rfl rfl rfl i1) (IT_c rfl rfl rfl rfl i2) (by omega) ty1 ty2 ⟨a + 1, fw1.1 95 (by decide), by omega⟩ h95 (SO_of (W := 0) (by omega) m1 w1 hw.1 x1 (VQ_of o1)) (SO_of (W := 0) (by omega) m2 w2 hw.1 x2 (VQ_of o2)) ⟨KR_of (c := 8600) (VO_54 o1) (VO_54 o2) (by omega) hq p57, h96⟩ (fun v1 v2 f1 f2 h => T2_some (EQ_ans (FE_tr k1 (f95 _)) (FE_tr k2 (f95 _)) (Nat.le_refl _) (by omega) f1 f2 h))
/-- an operation on one value -/
theorem b_one {f n O' r' e : Nat} (hE : PE T FN e) (hn : (1 ≤ n ∧ n < LNo T % 70001)) (lo : (O' = O ∧ r' + 2 ≤ r) ∨ (O' < O ∧ r' ≤ 14)) (hW : WN T FN f 0 O' r' K lc (T 6 n)) (hP : PC T FN O r K lc (e + 2) t w XC σ1) (hI : EI t w XC σ1 σ2) {L1 L2 : Nat → Int32} (d1 : L1 1 = nI n) (d2 : L2 1 = nI n) : T2 (fun k => x_GV k (e + 1) 0 16 L1 σ1) (fun k => x_GV k (e + 1) 0 16 L2 σ2) (EQ (178000 + (e + 1)) t w XC σ1 σ2) := by
  have ht := PC_t hP
  have hXC := hP.2.1
  have hd13 := hP.2.2.2.2.1
  have hS1 := hP.1
  have hS2 := EI_ST hI hS1
  have b17 : ∀ (N1 N2 : Nat → Int32) (v1 v2 : MS), EQ (178000 + (e + 1)) t w XC σ1 σ2 (0, v1) (0, v2) → T2 (fun k => x_GV k (e + 1) 0 17 N1 v1) (fun k => x_GV k (e + 1) 0 17 N2 v2) (EQ (178000 + (e + 1)) t w XC σ1 σ2) := fun N1 N2 v1 v2 h => by
    refine T2_suc (fun k => e_begins_17 k _ _ _) (fun k => e_begins_17 k _ _ _) ?_
    exact T2_some h
  refine T2_suc (fun k => e_begins_16 k _ _ _) (fun k => e_begins_16 k _ _ _) ?_
  rw [d1, d2]
  refine T2_chk (n_in (by omega) (by omega)) (n_in (by omega) (by omega)) ?_
  rw [n_cl (p := n) (by omega), hS1.1 6 _ (by omega) (by omega) (by omega), hS2.1 6 _ (by omega) (by omega) (by omega)]
  refine T2_od ?_
  refine T2_ob (hE f O' r' K lc (T 6 n) t w XC σ1 σ2 _ _ hW (PC_lo hP lo (WN_r hW) (by omega) (by omega) (by omega)) hI rfl rfl) (fun r1 r2 hr => ?_)
  obtain ⟨f1, f2, hr⟩ := hr
  rcases hr with ⟨w2, hw2, hJ⟩ | ⟨z1, z2⟩
  case inr =>
    refine T2_ite ⟨fun z => absurd z (EZ_e z1), fun z => absurd z (EZ_e z2)⟩ (fun z _ => absurd z (EZ_e z1)) (fun _ _ => ?_)
    exact b17 _ _ _ _ ⟨f1, f2, Or.inr ⟨EZ_mo z1 (Nat.le_refl _) (by omega), EZ_mo z2 (Nat.le_refl _) (by omega)⟩⟩
  obtain ⟨e1, e2⟩ := EI_e hJ
  rw [e1, e2]
  refine T2_ite Iff.rfl (fun _ _ => ?_) (fun z _ => absurd rfl z)
  refine T2_ob (E_sw hXC (by omega) hJ) (fun s1 s2 hs => ?_)
  obtain ⟨k1, k2, g1, l1, B1, h1, X1, g2, l2, B2, h2, X2, hX, rm1, rm2⟩ := hs
  obtain ⟨a1, a2, aR, i1, i2, t1, q1, q2, w1, hw, x1, x2, ⟨ty1, ty2⟩, a, y1, y2⟩ := hX
  have t2 : s2.2.1 59 = nI (t + 1) := (aR.2.2.1 59 (by unfold AlS; omega)).symm.trans t1
  refine T2_ob (T2_t (s_pop t1 (by omega) _) (s_pop t2 (by omega) _)) (fun u1 u2 hu => ?_)
  rw [hu.1, hu.2]
  obtain ⟨va, vb, va1, va2, va3, va4, va5, va6, va7⟩ := aR.1 29 t (Or.inl ⟨rfl, by omega⟩) (by unfold VwR; omega)
  rw [va1, va3]
  have g59 : ∀ σ : MS, FE σ (mSc σ 59 (nI t)) := fun σ => FE_sc (Or.inr (Or.inr (Or.inl rfl)))
  have m1 : MI (t + 1) X1 g1 l1 B1 h1 (mSc s1.2 59 (nI t)) := MI_59 a1
  have m2 : MI (t + 1) X2 g2 l2 B2 h2 (mSc s2.2 59 (nI t)) := MI_59 a2
  have mR : RA (t + 1) g1 g2 (mSc s1.2 59 (nI t)) (mSc s2.2 59 (nI t)) := RA_59 aR
  have w2' : s2.2.1 57 = nI w2 := (aR.2.2.1 57 (by unfold AlS; omega)).symm.trans w1
  refine T2_ob (T2_of (s_single (XB := XC) (L := upd (upd (fun _ => 0) 1 (nI n)) 2 (nI va)) m1 ty1 va1 va2 rfl (by omega) q1 w1 hw.1 x1 rfl (by omega) rfl) (s_single (XB := XC) (L := upd (upd (fun _ => 0) 1 (nI n)) 2 (nI vb)) m2 (by show TyT (s2.2.2.2 2); rw [← ty2]; exact ty1) va3 va4 rfl (by omega) q2 w2' hw.1 x2 rfl (by omega) rfl) (fun n' => k_single (STb_nt (STb_fe (STb_fe (STb_fe hS1 f1) k1) (g59 _)) hn) m1 m2 mR ty1 ty2 va1 va3 va2 va4 va5 rfl (by omega) hXC q1 q2 w1 hw.1 x1 x2 (by omega) (by omega) (by omega) rfl rfl rfl rfl)) (fun v1 v2 hv => ?_)
  obtain ⟨ks, o1, o2⟩ := hv
  have p95 : v1.2.1 95 = s1.2.1 95 := by
    obtain ⟨_, _, _, _, _, _, _, _, eo, _⟩ := o1
    exact eo.2.2 95 (by decide)
  have p95' : v2.2.1 95 = s2.2.1 95 := by
    obtain ⟨_, _, _, _, _, _, _, _, eo, _⟩ := o2
    exact eo.2.2 95 (by decide)
  exact E_ans (MI_mo m1 (by omega)) (MI_mo m2 (by omega)) (RA_mo (by omega) mR) (IT_c rfl rfl rfl rfl i1) (IT_c rfl rfl rfl rfl i2) (by omega) ty1 ty2 ⟨a, p95.trans y1, y2⟩ (p95.trans ((aR.2.2.1 95 (by unfold AlS; omega)).trans p95'.symm)) o1 o2 ks (fun v1 v2 h1 h2 h => b17 _ _ _ _ (EQ_ans (FE_tr f1 (FE_tr k1 (g59 _))) (FE_tr f2 (FE_tr k2 (g59 _))) hw2 (by omega) h1 h2 h))
/-- a choice -/
theorem b_choose {n e : Nat} (hE : ∀ i, i < e + 1 → PE T FN i) (hn : (1 ≤ n ∧ n < LNo T % 70001)) (hO : 1 ≤ O) {f0 : Nat} (hW : WN T FN f0 5 (O - 1) 0 K lc (T 6 n)) (hP : PC T FN O r K lc (e + 3) t w XC σ1) (hI : EI t w XC σ1 σ2) {L1 L2 : Nat → Int32} (d1 : L1 1 = nI n) (d2 : L2 1 = nI n) : T2 (fun k => x_GV k (e + 1) 3 0 L1 σ1) (fun k => x_GV k (e + 1) 3 0 L2 σ2) (EQ (178000 + e) t w XC σ1 σ2) := by
  have ht := PC_t hP
  have hXC := hP.2.1
  have hd13 := hP.2.2.2.2.1
  have hS1 := hP.1
  have hS2 := EI_ST hI hS1
  obtain ⟨e', rfl⟩ : ∃ e', e = e' + 1 := by
    obtain ⟨_, _, _, _, _, a6, _, _, _, _, _, _, _, c4⟩ := hP
    exact ⟨e - 1, by omega⟩
  have tb : ∀ (τ1 τ2 : MS), FE σ1 τ1 → FE σ2 τ2 → ∀ a i, 4 ≤ a → a ≤ 9 → (1 ≤ i ∧ i < LNo T % 70001) → τ1.2.2 a i = T a i ∧ τ2.2.2 a i = T a i := fun τ1 τ2 f1 f2 a i h1 h2 h3 => ⟨(STb_fe hS1 f1).1 a i h1 (by omega) ⟨fun _ => h3, fun z => by omega⟩, (STb_fe hS2 f2).1 a i h1 (by omega) ⟨fun _ => h3, fun z => by omega⟩⟩
  have b5 : ∀ (N1 N2 : Nat → Int32) (v1 v2 : MS), EQ (178000 + (e' + 1)) t w XC σ1 σ2 (0, v1) (0, v2) → T2 (fun k => x_GV k (e' + 1 + 1) 3 5 N1 v1) (fun k => x_GV k (e' + 1 + 1) 3 5 N2 v2) (EQ (178000 + (e' + 1)) t w XC σ1 σ2) := fun N1 N2 v1 v2 h => by
    refine T2_suc (fun k => e_choose_5 k _ _ _) (fun k => e_choose_5 k _ _ _) ?_
    exact T2_some h
  have b4 : ∀ (c w' : Nat) (N1 N2 : Nat → Int32) (τ1 τ2 : MS), (1 ≤ c ∧ c < LNo T % 70001) → N1 2 = nI c → N2 2 = nI c → (∃ f, WN T FN f 0 (O - 1) 14 K lc (T 6 c)) → FE σ1 τ1 → FE σ2 τ2 → w ≤ w' → (EI t w' XC τ1 τ2 ∨ (EZ t (178000 + (e' + 1)) τ1 ∧ EZ t (178000 + (e' + 1)) τ2)) → T2 (fun k => x_GV k (e' + 1 + 1) 3 4 N1 τ1) (fun k => x_GV k (e' + 1 + 1) 3 4 N2 τ2) (EQ (178000 + (e' + 1)) t w XC σ1 σ2) := by
    intro c w' N1 N2 τ1 τ2 hc n2 o2 hWc f1 f2 hw h
    refine T2_suc (fun k => e_choose_4 k _ _ _) (fun k => e_choose_4 k _ _ _) ?_
    rcases h with hJ | ⟨z1, z2⟩
    · obtain ⟨e1, e2⟩ := EI_e hJ
      rw [e1, e2, n2, o2]
      refine T2_ite Iff.rfl (fun _ _ => ?_) (fun z _ => absurd rfl z)
      refine T2_chk (n_in (by omega) (by omega)) (n_in (by omega) (by omega)) ?_
      rw [n_cl (p := c) (by omega), (tb _ _ f1 f2 6 _ (by omega) (by omega) (by omega)).1, (tb _ _ f1 f2 6 _ (by omega) (by omega) (by omega)).2]
      obtain ⟨fc, hWc⟩ := hWc
      refine T2_od ?_
      refine T2_ob (hE (e' + 1) (by omega) fc (O - 1) 14 K lc (T 6 c) t w' XC τ1 τ2 _ _ hWc (PC_in (PC_fe hP f1 hw (EI_w hJ)) hO (Nat.le_refl _) (by omega) (by omega) (by omega)) hJ rfl rfl) (fun r1 r2 hr => ?_)
      obtain ⟨g1, g2, hr⟩ := hr
      refine b5 _ _ _ _ ⟨FE_tr f1 g1, FE_tr f2 g2, ?_⟩
      rcases hr with ⟨w2, hw2, hr⟩ | hr
      · exact Or.inl ⟨w2, by omega, hr⟩
      · exact Or.inr hr
    · refine T2_ite ⟨fun z => absurd z (EZ_e z1), fun z => absurd z (EZ_e z2)⟩ (fun z _ => absurd z (EZ_e z1)) (fun _ _ => ?_)
      exact b5 _ _ _ _ ⟨f1, f2, Or.inr ⟨z1, z2⟩⟩
  have b1 : ∀ (f c w' : Nat) (N1 N2 : Nat → Int32) (τ1 τ2 : MS), WN T FN f 5 (O - 1) 0 K lc (nI c) → (1 ≤ c ∧ c < LNo T % 70001) → N1 2 = nI c → N2 2 = nI c → N1 3 = 1 → N2 3 = 1 → FE σ1 τ1 → FE σ2 τ2 → w ≤ w' → EI t w' XC τ1 τ2 → T2 (fun k => x_GV k (e' + 1 + 1) 3 1 N1 τ1) (fun k => x_GV k (e' + 1 + 1) 3 1 N2 τ2) (EQ (178000 + (e' + 1)) t w XC σ1 σ2) := by
    intro f
    induction f with
    | zero => intro c w' N1 N2 τ1 τ2 hW; exact hW.elim
    | succ f ih =>
      intro c w' N1 N2 τ1 τ2 hW hc n2 o2 n3 o3 f1 f2 hw hJ
      unfold WN at hW
      rcases hW with ⟨z, _⟩ | ⟨z, _⟩ | ⟨z, _⟩ | ⟨z, _⟩ | ⟨z, _⟩ | ⟨_, c', ec, _, W6, hor⟩ | ⟨z, _⟩
      case inl => exact absurd z (by decide)
      case inr.inl => exact absurd z (by decide)
      case inr.inr.inl => exact absurd z (by decide)
      case inr.inr.inr.inl => exact absurd z (by decide)
      case inr.inr.inr.inr.inl => exact absurd z (by decide)
      case inr.inr.inr.inr.inr.inr => exact absurd z (by decide)
      have hc70 : (1 ≤ c' ∧ c' < LNo T % 70001) := by assumption
      have ecc : c = c' := (n_eq (by omega) (by omega)).mp ec
      subst ecc
      have b2 : ∀ (w2 : Nat) (υ1 υ2 : MS), FE σ1 υ1 → FE σ2 υ2 → w ≤ w2 → (EI t w2 XC υ1 υ2 ∨ (EZ t (178000 + (e' + 1)) υ1 ∧ EZ t (178000 + (e' + 1)) υ2)) → T2 (fun k => x_GV k (e' + 1 + 1) 3 2 N1 υ1) (fun k => x_GV k (e' + 1 + 1) 3 2 N2 υ2) (EQ (178000 + (e' + 1)) t w XC σ1 σ2) := fun w2 υ1 υ2 k1 k2 hw2 h => by
        refine T2_suc (fun k => e_choose_2 k _ _ _) (fun k => e_choose_2 k _ _ _) ?_
        refine T2_suc (fun k => e_choose_1 k _ _ _) (fun k => e_choose_1 k _ _ _) ?_
        refine T2_ite (c1 := (0 : Int32) = 0) (c2 := (0 : Int32) = 0) Iff.rfl (fun _ _ => ?_) (fun z _ => absurd rfl z)
        exact b4 c w2 _ _ υ1 υ2 hc n2 o2 ⟨f, W6⟩ k1 k2 hw2 h
      refine T2_suc (fun k => e_choose_1 k _ _ _) (fun k => e_choose_1 k _ _ _) ?_
      obtain ⟨e1, e2⟩ := EI_e hJ
      rw [n3, o3, e1, e2, n2, o2]
      refine T2_ite Iff.rfl (fun z _ => absurd z (by decide)) (fun _ _ => ?_)
      refine T2_ite Iff.rfl (fun _ _ => ?_) (fun z _ => absurd rfl z)
      refine T2_chk (n_in (by omega) (by omega)) (n_in (by omega) (by omega)) ?_
      rw [n_cl (p := c) (by omega), (tb _ _ f1 f2 5 _ (by omega) (by omega) (by omega)).1, (tb _ _ f1 f2 5 _ (by omega) (by omega) (by omega)).2]
      refine T2_ite Iff.rfl (fun _ _ => b2 w' τ1 τ2 f1 f2 hw (Or.inl hJ)) (fun z5 _ => ?_)
      obtain ⟨W5, W9⟩ := hor.resolve_left z5
      refine T2_chk (n_in3 (by omega) (by omega)) (n_in3 (by omega) (by omega)) ?_
      refine T2_od ?_
      refine T2_ob (b_holds (hE e' (by omega)) W5 (PC_in (PC_fe hP f1 hw (EI_w hJ)) hO (Nat.le_refl _) (by omega) (by omega) (by omega)) hJ rfl rfl) (fun r1 r2 hr => ?_)
      obtain ⟨a1, a2, a3, a4⟩ := hr
      have a4 : (∃ w2, w' ≤ w2 ∧ EI t w2 XC r1.2 r2.2) ∨ (EZ t (178000 + e') r1.2 ∧ EZ t (178000 + e') r2.2) := a4.imp id (fun z => ⟨z.1, z.2.1⟩)
      have k1 := FE_tr f1 a2
      have k2 := FE_tr f2 a3
      have zmo : ∀ {τ : MS}, EZ t (178000 + e') τ → EZ t (178000 + (e' + 1)) τ := fun z => EZ_mo z (Nat.le_refl _) (by omega)
      rw [a1]
      refine T2_ite Iff.rfl (fun _ _ => ?_) (fun _ _ => ?_)
      · refine T2_suc (fun k => e_choose_3 k _ _ _) (fun k => e_choose_3 k _ _ _) ?_
        rw [n2, o2]
        refine T2_chk (n_in (by omega) (by omega)) (n_in (by omega) (by omega)) ?_
        rw [n_cl (p := c) (by omega), (tb _ _ k1 k2 9 _ (by omega) (by omega) (by omega)).1, (tb _ _ k1 k2 9 _ (by omega) (by omega) (by omega)).2]
        rcases a4 with ⟨w2, hw2, hJ2⟩ | ⟨z1, z2⟩
        · have W9' := W9
          cases f with
          | zero => exact W9'.elim
          | succ f' =>
            unfold WN at W9'
            rcases W9' with ⟨z, _⟩ | ⟨z, _⟩ | ⟨z, _⟩ | ⟨z, _⟩ | ⟨z, _⟩ | ⟨_, c2, ec2, hc2, _⟩ | ⟨z, _⟩
            case inl => exact absurd z (by decide)
            case inr.inl => exact absurd z (by decide)
            case inr.inr.inl => exact absurd z (by decide)
            case inr.inr.inr.inl => exact absurd z (by decide)
            case inr.inr.inr.inr.inl => exact absurd z (by decide)
            case inr.inr.inr.inr.inr.inr => exact absurd z (by decide)
            rw [ec2] at W9 ⊢
            exact ih c2 w2 _ _ r1.2 r2.2 W9 hc2 rfl rfl n3 o3 k1 k2 (by omega) hJ2
        · refine T2_suc (fun k => e_choose_1 k _ _ _) (fun k => e_choose_1 k _ _ _) ?_
          have u1 : upd N1 2 (T 9 c) 3 = 1 := n3
          have u2 : upd N2 2 (T 9 c) 3 = 1 := o3
          rw [u1, u2]
          refine T2_ite Iff.rfl (fun z _ => absurd z (by decide)) (fun _ _ => ?_)
          refine T2_ite ⟨fun z => absurd z (EZ_e z1), fun z => absurd z (EZ_e z2)⟩ (fun z _ => absurd z (EZ_e z1)) (fun _ _ => ?_)
          refine T2_suc (fun k => e_choose_4 k _ _ _) (fun k => e_choose_4 k _ _ _) ?_
          refine T2_ite ⟨fun z => absurd z (EZ_e z1), fun z => absurd z (EZ_e z2)⟩ (fun z _ => absurd z (EZ_e z1)) (fun _ _ => ?_)
          exact b5 _ _ _ _ ⟨k1, k2, Or.inr ⟨zmo z1, zmo z2⟩⟩
      · rcases a4 with ⟨w2, hw2, hJ2⟩ | ⟨z1, z2⟩
        · exact b2 w2 r1.2 r2.2 k1 k2 (by omega) (Or.inl hJ2)
        · exact b2 w r1.2 r2.2 k1 k2 (Nat.le_refl _) (Or.inr ⟨zmo z1, zmo z2⟩)
  refine T2_suc (fun k => e_choose_0 k _ _ _) (fun k => e_choose_0 k _ _ _) ?_
  rw [d1, d2]
  refine T2_chk (n_in (by omega) (by omega)) (n_in (by omega) (by omega)) ?_
  rw [n_cl (p := n) (by omega), hS1.1 6 _ (by omega) (by omega) (by omega), hS2.1 6 _ (by omega) (by omega) (by omega)]
  have hW' := hW
  cases f0 with
  | zero => exact hW'.elim
  | succ f' =>
    unfold WN at hW'
    rcases hW' with ⟨z, _⟩ | ⟨z, _⟩ | ⟨z, _⟩ | ⟨z, _⟩ | ⟨z, _⟩ | ⟨_, c2, ec2, hc2, _⟩ | ⟨z, _⟩
    case inl => exact absurd z (by decide)
    case inr.inl => exact absurd z (by decide)
    case inr.inr.inl => exact absurd z (by decide)
    case inr.inr.inr.inl => exact absurd z (by decide)
    case inr.inr.inr.inr.inl => exact absurd z (by decide)
    case inr.inr.inr.inr.inr.inr => exact absurd z (by decide)
    rw [ec2] at hW ⊢
    exact b1 (f' + 1) c2 w _ _ σ1 σ2 hW hc2 rfl rfl rfl rfl FE_rf FE_rf (Nat.le_refl _) hI
end EBH
