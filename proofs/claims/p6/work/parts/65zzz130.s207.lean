/-! Evaluation on both sides (reference): tuples in brackets. -/
section MRE
variable {g : Nat → Prop} {l : List Nat} {B h t u X : Nat} {σ τ : MS}
/-- other roots that could be reached before: no more lives -/
theorem MI_re (hM : MI t X g l B h σ) (h54 : τ.1 54 = σ.1 54) (h55 : τ.1 55 = σ.1 55) (h28 : τ.2.2 28 = σ.2.2 28) (hQ : RtQ τ) (hR : ∀ a i, RtP u τ a i → ∃ m, τ.2.2 a i = nI m ∧ (m < 3 ∨ Rch (σ.2.2 28) (RoS t σ) m)) : MI u X g l B h τ := by
  obtain ⟨m1, m2, m3, m4⟩ := hM
  have hb := HS_b m1
  have gd : ∀ m, Rch (σ.2.2 28) (RoS t σ) m → g m := fun m z => Rch_good m1.2.2.2.2 hb.2 (fun v => RoS_good m1 m3) z
  refine ⟨HS_c m1 h54 h55 h28, hQ, fun a i z => ?_, ?_⟩
  · obtain ⟨m, e1, e2⟩ := hR a i z
    exact ⟨m, e1, e2.imp id (gd m)⟩
  · rw [h28]
    refine LVc_mo (fun v z => ?_) m4
    obtain ⟨z1, z2, a, i, z3, z4⟩ := z
    obtain ⟨m, e1, e2⟩ := hR a i z3
    have bm : m < 1740000 := HS_vb m1 (e2.imp id (gd m))
    have e : v = m := (n_eq (by omega) (by omega)).mp (z4.symm.trans e1)
    rw [e]
    exact e2.resolve_left (by omega)
theorem MI_rt {a i : Nat} (hM : MI t X g l B h σ) (hr : RtP t σ a i) : ∃ m, σ.2.2 a i = nI m ∧ (m < 3 ∨ Rch (σ.2.2 28) (RoS t σ) m) := by
  obtain ⟨m, q1, q2⟩ := hM.2.2.1 a i hr
  refine ⟨m, q1, ?_⟩
  by_cases c : m < 3
  · exact Or.inl c
  · exact Or.inr (Rch_b ⟨by omega, HS_vb hM.1 q2, a, i, hr, q1⟩)
theorem RtP_n29 {a i : Nat} (ha : a ≠ 29) : RtP u σ a i ↔ RtP t σ a i := by
  unfold RtP
  constructor
  · intro z; exact z.imp (fun y => absurd y.1 ha) id
  · intro z; exact z.imp (fun y => absurd y.1 ha) id
end MRE
section ETU
variable {T : Nat → Nat → Int32} {FN : Nat → Nat → Prop} {O r K d t u w XC : Nat} {lc : Nat → Prop} {σ1 σ2 τ1 τ2 : MS}
/-- the piles alone are others: what lies upon them lay there before, or is om -/
theorem EI_pile (hE : EI t w XC σ1 σ2) (s1 : ∀ j, j ≠ 59 → τ1.1 j = σ1.1 j) (s2 : ∀ j, j ≠ 59 → τ2.1 j = σ2.1 j) (l1 : τ1.2.1 = σ1.2.1) (l2 : τ2.2.1 = σ2.2.1) (r1 : ∀ a, a ≠ 29 → τ1.2.2 a = σ1.2.2 a) (r2 : ∀ a, a ≠ 29 → τ2.2.2 a = σ2.2.2 a) (u1 : τ1.1 59 = nI u) (u2 : τ2.1 59 = nI u) (hp : ∀ i, i < u → (∃ j, j < t ∧ τ1.2.2 29 i = σ1.2.2 29 j ∧ τ2.2.2 29 i = σ2.2.2 29 j) ∨ (τ1.2.2 29 i = 0 ∧ τ2.2.2 29 i = 0)) : EI u w XC τ1 τ2 := by
  obtain ⟨g1, l1', B1, h1, X1, g2, l2', B2, h2, X2, m1, m2, hR, i1, i2, t1, e1, e2, w1, hw, x1, x2, ⟨ty1, ty2⟩, a, a1, a2⟩ := hE
  have rc1 : ∀ x i, RtP u τ1 x i ↔ RtP u σ1 x i := RtP_c (s1 63 (by decide)) (s1 72 (by decide)) (r1 30 (by decide)) (r1 31 (by decide))
  have rc2 : ∀ x i, RtP u τ2 x i ↔ RtP u σ2 x i := RtP_c (s2 63 (by decide)) (s2 72 (by decide)) (r2 30 (by decide)) (r2 31 (by decide))
  have q1 : RtQ τ1 := RtQ_c (s1 63 (by decide)) (s1 72 (by decide)) (r1 30 (by decide)) (r1 31 (by decide)) m1.2.1
  have q2 : RtQ τ2 := RtQ_c (s2 63 (by decide)) (s2 72 (by decide)) (r2 30 (by decide)) (r2 31 (by decide)) m2.2.1
  have n1 : MI u X1 g1 l1' B1 h1 τ1 := MI_re m1 (s1 54 (by decide)) (s1 55 (by decide)) (r1 28 (by decide)) q1 (fun x i z => by
    have z := (rc1 x i).mp z
    by_cases e : x = 29
    · subst e
      have hi : i < u := by unfold RtP at z; omega
      rcases hp i hi with ⟨j, j1, j2, j3⟩ | ⟨j2, j3⟩
      · rw [j2]; exact MI_rt m1 (Or.inl ⟨rfl, j1⟩)
      · exact ⟨0, j2, Or.inl (by decide)⟩
    · rw [r1 x e]; exact MI_rt m1 ((RtP_n29 e).mp z))
  have n2 : MI u X2 g2 l2' B2 h2 τ2 := MI_re m2 (s2 54 (by decide)) (s2 55 (by decide)) (r2 28 (by decide)) q2 (fun x i z => by
    have z := (rc2 x i).mp z
    by_cases e : x = 29
    · subst e
      have hi : i < u := by unfold RtP at z; omega
      rcases hp i hi with ⟨j, j1, j2, j3⟩ | ⟨j2, j3⟩
      · rw [j3]; exact MI_rt m2 (Or.inl ⟨rfl, j1⟩)
      · exact ⟨0, j3, Or.inl (by decide)⟩
    · rw [r2 x e]; exact MI_rt m2 ((RtP_n29 e).mp z))
  refine ⟨g1, l1', B1, h1, X1, g2, l2', B2, h2, X2, n1, n2, ⟨fun x i z hv => ?_, fun x i hx hz hn => ?_, fun j hj => ?_, ?_⟩, IT_c (s1 72 (by decide)) (r1 34 (by decide)) (r1 35 (by decide)) (r1 28 (by decide)) i1, IT_c (s2 72 (by decide)) (r2 34 (by decide)) (r2 35 (by decide)) (r2 28 (by decide)) i2, u1, (s1 56 (by decide)).trans e1, (s2 56 (by decide)).trans e2, (s1 57 (by decide)).trans w1, hw, x1, x2, ⟨by rw [r1 2 (by decide)]; exact ty1, by rw [r1 2 (by decide), r2 2 (by decide)]; exact ty2⟩, a, (s1 95 (by decide)).trans a1, a2⟩
  · have z := (rc1 x i).mp z
    rw [r1 28 (by decide), r2 28 (by decide)]
    by_cases e : x = 29
    · subst e
      have hi : i < u := by unfold RtP at z; omega
      rcases hp i hi with ⟨j, j1, j2, j3⟩ | ⟨j2, j3⟩
      · rw [j2, j3]; exact hR.1 29 j (Or.inl ⟨rfl, j1⟩) hv
      · rw [j2, j3]; exact VC_00
    · rw [r1 x e, r2 x e]; exact hR.1 x i ((RtP_n29 e).mp z) hv
  · have e : x ≠ 29 := by unfold AlR at hx; omega
    rw [r1 x e, r2 x e]; exact hR.2.1 x i hx hz (fun z => hn ((InA_c (σ := σ1) (ρ := τ1) (s1 63 (by decide)) (s1 72 (by decide)) (s1 22 (by decide)) (s1 24 (by decide)) (s1 30 (by decide)) (s1 44 (by decide)) (fun u _ => by rw [r1 21 (by decide)]) (fun j _ => by rw [r1 30 (by decide)]) (fun p _ j _ => by rw [r1 31 (by decide)]) x i).mpr z))
  · by_cases e : j = 59
    · rw [e, u1, u2]
    · rw [s1 j e, s2 j e]; exact hR.2.2.1 j hj
  · rw [l1, l2]; exact hR.2.2.2
theorem FE_pl {σ τ : MS} (s : ∀ j, j ≠ 59 → τ.1 j = σ.1 j) (r : ∀ a, a ≠ 29 → τ.2.2 a = σ.2.2 a) : FE σ τ := ⟨fun j _ _ h _ => s j h, fun a i h _ _ => by rw [r a (by unfold AlR at h; omega)], r 2 (by decide), KPn_same (r 28 (by decide)) (fun a h => r a (by omega))⟩
theorem EZ_dn {a b c : Nat} {σ : MS} (h : EZ a b σ) (hc : c ≤ a) (hb : c ≤ b) : EZ c b (mSc σ 59 (nI c)) := by
  obtain ⟨g, l, B, h', t, m, c1, c2, c3, c4, c5, c6, c7⟩ := h
  exact ⟨g, l, B, h', c, MI_59 (MI_mo m (by omega)), rfl, Nat.le_refl _, hb, c4, ErB_c rfl c5, c6, c7⟩
theorem EZ_59 {a b : Nat} {σ : MS} (h : EZ a b σ) : EZ a b (mSc σ 59 (σ.1 59)) := by
  obtain ⟨g, l, B, h', t, m, c1, c2, c3, c4, c5, c6, c7⟩ := h
  exact ⟨g, l, B, h', t, MI_59 m, c1, c2, c3, c4, ErB_c rfl c5, c6, c7⟩
/-- locals of tupleBrackets -/
def TLo (t s o : Nat) (x : Int32) (N : Nat → Int32) : Prop := N 2 = nI t ∧ N 3 = nI s ∧ N 4 = nI o ∧ N 5 = x
theorem b_tup {n e f0 m0 : Nat} (hE : PE T FN e) (hn : (1 ≤ n ∧ n < LNo T % 70001)) (hO : 1 ≤ O) (hm0 : m0 ≤ 70000) (hW : WN T FN f0 3 (O - 1) m0 K lc (T 6 n)) (hP : PC T FN O r K lc (e + 3) t w XC σ1) (hI : EI t w XC σ1 σ2) {L1 L2 : Nat → Int32} (d1 : L1 1 = nI n) (d2 : L2 1 = nI n) : T2 (fun k => x_GV k (e + 1) 12 0 L1 σ1) (fun k => x_GV k (e + 1) 12 0 L2 σ2) (EQ (178000 + (e + 1)) t w XC σ1 σ2) := by
  have ht := PC_t hP
  have hXC := hP.2.1
  have hd13 := hP.2.2.2.2.1
  have hS1 := hP.1
  have hS2 := EI_ST hI hS1
  have tb : ∀ (τ1 τ2 : MS), FE σ1 τ1 → FE σ2 τ2 → ∀ a i, 4 ≤ a → a ≤ 9 → (1 ≤ i ∧ i < LNo T % 70001) → τ1.2.2 a i = T a i ∧ τ2.2.2 a i = T a i := fun τ1 τ2 f1 f2 a i h1 h2 h3 => ⟨(STb_fe hS1 f1).1 a i h1 (by omega) ⟨fun _ => h3, fun z => by omega⟩, (STb_fe hS2 f2).1 a i h1 (by omega) ⟨fun _ => h3, fun z => by omega⟩⟩
  have b13 : ∀ (N1 N2 : Nat → Int32) (v1 v2 : MS), EQ (178000 + (e + 1)) t w XC σ1 σ2 (0, v1) (0, v2) → T2 (fun k => x_GV k (e + 1) 12 13 N1 v1) (fun k => x_GV k (e + 1) 12 13 N2 v2) (EQ (178000 + (e + 1)) t w XC σ1 σ2) := fun N1 N2 v1 v2 h => by
    refine T2_suc (fun k => e_tupleBrackets_13 k _ _ _) (fun k => e_tupleBrackets_13 k _ _ _) ?_
    exact T2_some h
  have b12Z : ∀ (N1 N2 : Nat → Int32) (τ1 τ2 : MS), FE σ1 τ1 → FE σ2 τ2 → EZ t (178000 + e) τ1 → EZ t (178000 + e) τ2 → T2 (fun k => x_GV k (e + 1) 12 12 N1 τ1) (fun k => x_GV k (e + 1) 12 12 N2 τ2) (EQ (178000 + (e + 1)) t w XC σ1 σ2) := fun N1 N2 τ1 τ2 f1 f2 z1 z2 => by
    refine T2_suc (fun k => e_tupleBrackets_12 k _ _ _) (fun k => e_tupleBrackets_12 k _ _ _) ?_
    refine T2_ite ⟨fun z => absurd z (EZ_e z1), fun z => absurd z (EZ_e z2)⟩ (fun z _ => absurd z (EZ_e z1)) (fun _ _ => ?_)
    exact b13 _ _ _ _ ⟨f1, f2, Or.inr ⟨EZ_mo z1 (Nat.le_refl _) (by omega), EZ_mo z2 (Nat.le_refl _) (by omega)⟩⟩
  have b11Z : ∀ (N1 N2 : Nat → Int32) (τ1 τ2 : MS), FE σ1 τ1 → FE σ2 τ2 → EZ t (178000 + e) τ1 → EZ t (178000 + e) τ2 → T2 (fun k => x_GV k (e + 1) 12 11 N1 τ1) (fun k => x_GV k (e + 1) 12 11 N2 τ2) (EQ (178000 + (e + 1)) t w XC σ1 σ2) := fun N1 N2 τ1 τ2 f1 f2 z1 z2 => by
    refine T2_suc (fun k => e_tupleBrackets_11 k _ _ _) (fun k => e_tupleBrackets_11 k _ _ _) ?_
    refine T2_ite ⟨fun z => absurd z (EZ_e z1), fun z => absurd z (EZ_e z2)⟩ (fun z _ => absurd z (EZ_e z1)) (fun _ _ => ?_)
    exact b12Z _ _ _ _ f1 f2 z1 z2
  have f59 : ∀ (σ : MS) (x : Int32), FE σ (mSc σ 59 x) := fun σ x => FE_sc (Or.inr (Or.inr (Or.inl rfl)))
  -- the tuple is made
  have b12 : ∀ (j w' : Nat) (N1 N2 : Nat → Int32) (τ1 τ2 : MS), j ≤ 1000 → N1 2 = nI t → N2 2 = nI t → FE σ1 τ1 → FE σ2 τ2 → w ≤ w' → EI (t + j) w' XC τ1 τ2 → T2 (fun k => x_GV k (e + 1) 12 12 N1 τ1) (fun k => x_GV k (e + 1) 12 12 N2 τ2) (EQ (178000 + (e + 1)) t w XC σ1 σ2) := by
    intro j w' N1 N2 τ1 τ2 hj n2 o2 f1 f2 hw' hJ
    obtain ⟨e1, e2⟩ := EI_e hJ
    refine T2_suc (fun k => e_tupleBrackets_12 k _ _ _) (fun k => e_tupleBrackets_12 k _ _ _) ?_
    rw [e1, e2]
    refine T2_ite Iff.rfl (fun _ _ => ?_) (fun z _ => absurd rfl z)
    refine T2_ob (E_sw hXC (by omega) hJ) (fun r1 r2 hr => ?_)
    obtain ⟨k1, k2, g1, l1, B1, h1, X1, g2, l2, B2, h2, X2, hX, rm1, rm2⟩ := hr
    obtain ⟨a1, a2, aR, i1, i2, t1, q1, q2, w1, hw, x1, x2, ⟨ty1, ty2⟩, a, y1, y2⟩ := hX
    have al : ∀ j, AlS j → r2.2.1 j = r1.2.1 j := fun j h => (aR.2.2.1 j h).symm
    have t2 : r2.2.1 59 = nI (t + j) := (al 59 (by unfold AlS; omega)).trans t1
    have w2 : r2.2.1 57 = nI w' := (al 57 (by unfold AlS; omega)).trans w1
    have pl : PlE g1 g2 r1.2 r2.2 t j := fun i hi => aR.1 29 (t + i) (Or.inl ⟨rfl, by omega⟩) (by unfold VwR; omega)
    have m1 : MI t X1 g1 l1 B1 h1 r1.2 := MI_mo a1 (by omega)
    have m2 : MI t X2 g2 l2 B2 h2 r2.2 := MI_mo a2 (by omega)
    rw [n2, o2]
    refine T2_ob (T2_of (s_tupleOf (L := upd (fun _ => 0) 1 (nI t)) a1.1 ⟨0, q1, by decide⟩ t1 (by omega) (PlE_1 pl) rfl) (s_tupleOf (L := upd (fun _ => 0) 1 (nI t)) a2.1 ⟨0, q2, by decide⟩ t2 (by omega) (PlE_2 pl) rfl) (fun n' => Pm_wl (fun k => wl_tupleOf k _ _ _) (fun k => wl_tupleOf k _ _ _) (k_tupleOf a1.1 a2.1 q1 q2 t1 t2 (by omega) (by omega) (by omega) pl rfl rfl))) (fun s1 s2 hs => ?_)
    obtain ⟨⟨hq, wl1, wl2⟩, o1, o2'⟩ := hs
    have o1' := o1
    have o2'' := o2'
    obtain ⟨_, _, _, _, fw1, _⟩ := o1'
    obtain ⟨_, _, _, _, fw2, _⟩ := o2''
    have p57 : s1.2.1 57 = s2.2.1 57 := by rw [fw1.1 57 (by decide), fw2.1 57 (by decide), w1, w2]
    have p95 := fw1.1 95 (by decide)
    have p95' := fw2.1 95 (by decide)
    exact E_ans m1 m2 (RA_mo (by omega) aR) i1 i2 (by omega) ty1 ty2 ⟨a, p95.trans y1, y2⟩ (p95.trans ((aR.2.2.1 95 (by unfold AlS; omega)).trans p95'.symm)) (SO_of (W := 0) (by omega) m1 w1 hw.1 x1 (VQ_of o1)) (SO_of (W := 0) (by omega) m2 w2 hw.1 x2 (VQ_of o2')) ⟨KR_of (c := 8600) (VO_54 o1) (VO_54 o2') (by omega) hq p57, by rw [wl1, wl2]; exact aR.2.2.2⟩ (fun v1 v2 h1 h2 h => b13 _ _ _ _ (EQ_ans (FE_tr f1 k1) (FE_tr f2 k2) hw' (by omega) h1 h2 h))
  -- one member after another
  have b1 : ∀ (f m s o j w' : Nat) (x : Int32) (N1 N2 : Nat → Int32) (τ1 τ2 : MS), WN T FN f 3 (O - 1) m K lc x → o + m ≤ 70000 → 1 ≤ s → s ≤ 72000 → (s ≤ 1000 → j + 1 ≤ s) → (1000 < s → j = 0) → TLo t s o x N1 → TLo t s o x N2 → FE σ1 τ1 → FE σ2 τ2 → w ≤ w' → EI (t + j) w' XC τ1 τ2 → T2 (fun k => x_GV k (e + 1) 12 1 N1 τ1) (fun k => x_GV k (e + 1) 12 1 N2 τ2) (EQ (178000 + (e + 1)) t w XC σ1 σ2) := by
    intro f
    induction f with
    | zero => intro m s o j w' x N1 N2 τ1 τ2 hW; exact hW.elim
    | succ f ih =>
      intro m s o j w' x N1 N2 τ1 τ2 hW hom hs1 hs2 hj1 hj2 hN1 hN2 f1 f2 hw' hJ
      have hj : j ≤ 999 := by omega
      unfold WN at hW
      rcases hW with ⟨z, _⟩ | ⟨z, _⟩ | ⟨z, _⟩ | ⟨_, hor⟩ | ⟨z, _⟩ | ⟨z, _⟩ | ⟨z, _⟩
      case inl => exact absurd z (by decide)
      case inr.inl => exact absurd z (by decide)
      case inr.inr.inl => exact absurd z (by decide)
      case inr.inr.inr.inr.inl => exact absurd z (by decide)
      case inr.inr.inr.inr.inr.inl => exact absurd z (by decide)
      case inr.inr.inr.inr.inr.inr => exact absurd z (by decide)
      obtain ⟨e1, e2⟩ := EI_e hJ
      rcases hor with ⟨_, xz⟩ | ⟨m', c, rm, xc, hc, W0, W9⟩
      · refine T2_suc (fun k => e_tupleBrackets_1 k _ _ _) (fun k => e_tupleBrackets_1 k _ _ _) ?_
        rw [hN1.2.2.2, hN2.2.2.2, xz]
        refine T2_ite Iff.rfl (fun _ _ => ?_) (fun z _ => absurd rfl z)
        refine T2_suc (fun k => e_tupleBrackets_11 k _ _ _) (fun k => e_tupleBrackets_11 k _ _ _) ?_
        rw [e1, e2, hN1.2.1, hN2.2.1]
        refine T2_ite Iff.rfl (fun _ _ => ?_) (fun z _ => absurd rfl z)
        refine T2_ite Iff.rfl (fun _ _ => b12 j w' _ _ τ1 τ2 (by omega) hN1.1 hN2.1 f1 f2 hw' hJ) (fun _ _ => ?_)
        refine T2_ob (T2_t (s_fail _ _) (s_fail _ _)) (fun r1 r2 hr => ?_)
        rw [hr.1, hr.2]
        obtain ⟨z1, z2⟩ := E_er (a := t) (b := 178000 + e) (e := 5) hXC hJ (by decide) (by decide) (by omega) (by omega)
        exact b12Z _ _ _ _ (FE_tr f1 FE_er) (FE_tr f2 FE_er) z1 z2
      -- the next
      have b10 : ∀ (s' o' j' w2 : Nat) (M1 M2 : Nat → Int32) (υ1 υ2 : MS), o' + m' ≤ 70000 → 1 ≤ s' → s' ≤ 72000 → (s' ≤ 1000 → j' + 1 ≤ s') → (1000 < s' → j' = 0) → TLo t s' o' x M1 → TLo t s' o' x M2 → FE σ1 υ1 → FE σ2 υ2 → w ≤ w2 → EI (t + j') w2 XC υ1 υ2 → T2 (fun k => x_GV k (e + 1) 12 10 M1 υ1) (fun k => x_GV k (e + 1) 12 10 M2 υ2) (EQ (178000 + (e + 1)) t w XC σ1 σ2) := by
        intro s' o' j' w2 M1 M2 υ1 υ2 h1 h2 h3 h4 h5 hM1 hM2 k1 k2 hw2 hJ2
        refine T2_suc (fun k => e_tupleBrackets_10 k _ _ _) (fun k => e_tupleBrackets_10 k _ _ _) ?_
        rw [hM1.2.2.2, hM2.2.2.2, xc]
        refine T2_chk (n_in (by omega) (by omega)) (n_in (by omega) (by omega)) ?_
        rw [n_cl (p := c) (by omega), (tb _ _ k1 k2 9 _ (by omega) (by omega) (by omega)).1, (tb _ _ k1 k2 9 _ (by omega) (by omega) (by omega)).2]
        exact ih m' s' o' j' w2 (T 9 c) _ _ υ1 υ2 W9 h1 h2 h3 h4 h5 ⟨hM1.1, hM1.2.1, hM1.2.2.1, rfl⟩ ⟨hM2.1, hM2.2.1, hM2.2.2.1, rfl⟩ k1 k2 hw2 hJ2
      have b7 : ∀ (s' o' j' w2 : Nat) (M1 M2 : Nat → Int32) (υ1 υ2 : MS), o' + m' ≤ 70000 → 1 ≤ s' → s' ≤ 72000 → (s' ≤ 1000 → j' + 1 ≤ s') → TLo t s' o' x M1 → TLo t s' o' x M2 → FE σ1 υ1 → FE σ2 υ2 → w ≤ w2 → EI (t + j') w2 XC υ1 υ2 → T2 (fun k => x_GV k (e + 1) 12 7 M1 υ1) (fun k => x_GV k (e + 1) 12 7 M2 υ2) (EQ (178000 + (e + 1)) t w XC σ1 σ2) := by
        intro s' o' j' w2 M1 M2 υ1 υ2 h1 h2 h3 h4 hM1 hM2 k1 k2 hw2 hJ2
        obtain ⟨p1, p2⟩ := EI_59 hJ2
        refine T2_suc (fun k => e_tupleBrackets_7 k _ _ _) (fun k => e_tupleBrackets_7 k _ _ _) ?_
        rw [hM1.2.1, hM2.2.1, hM1.1, hM2.1]
        refine T2_ite Iff.rfl (fun z _ => ?_) (fun z _ => ?_)
        · have z := (n_le (q := 1000) (by omega) (by decide)).mp z
          refine T2_suc (fun k => e_tupleBrackets_8 k _ _ _) (fun k => e_tupleBrackets_8 k _ _ _) ?_
          refine T2_suc (fun k => e_tupleBrackets_9 k _ _ _) (fun k => e_tupleBrackets_9 k _ _ _) ?_
          rw [p1, p2]
          exact b10 s' o' j' w2 _ _ (mSc υ1 59 (nI (t + j'))) (mSc υ2 59 (nI (t + j'))) h1 h2 h3 h4 (fun y => by omega) hM1 hM2 (FE_tr k1 (f59 _ _)) (FE_tr k2 (f59 _ _)) hw2 (EI_dn (Nat.le_refl _) hJ2)
        · have z : 1000 < s' := by
            by_cases y : s' ≤ 1000
            · exact absurd ((n_le (q := 1000) (by omega) (by decide)).mpr y) z
            · omega
          refine T2_suc (fun k => e_tupleBrackets_9 k _ _ _) (fun k => e_tupleBrackets_9 k _ _ _) ?_
          exact b10 s' o' 0 w2 _ _ (mSc υ1 59 (nI (t + 0))) (mSc υ2 59 (nI (t + 0))) h1 h2 h3 (fun y => by omega) (fun _ => rfl) hM1 hM2 (FE_tr k1 (f59 _ _)) (FE_tr k2 (f59 _ _)) hw2 (EI_dn (by omega) hJ2)
      refine T2_suc (fun k => e_tupleBrackets_1 k _ _ _) (fun k => e_tupleBrackets_1 k _ _ _) ?_
      rw [hN1.2.2.2, hN2.2.2.2, e1, e2]
      refine T2_ite Iff.rfl (fun z _ => ?_) (fun _ _ => ?_)
      · rw [xc] at z
        have : (nI c).toInt = (-1 : Int32).toInt := by rw [z]
        rw [n_int (by omega), show (-1 : Int32).toInt = -1 from by decide] at this
        omega
      refine T2_ite Iff.rfl (fun _ _ => ?_) (fun z _ => absurd rfl z)
      refine T2_od ?_
      refine T2_ob (hE f (O - 1) 14 K lc x (t + j) w' XC τ1 τ2 _ _ W0 (PC_in (PC_fe hP f1 hw' (EI_w hJ)) hO (Nat.le_refl _) (by omega) (by omega) (by omega)) hJ rfl rfl) (fun r1 r2 hr => ?_)
      obtain ⟨g1, g2, hr⟩ := hr
      have k1 := FE_tr f1 g1
      have k2 := FE_tr f2 g2
      rcases hr with ⟨w2, hw2, hJ2⟩ | ⟨z1, z2⟩
      case inr =>
        -- an error: out
        refine T2_ite ⟨fun z => absurd z (EZ_e z1), fun z => absurd z (EZ_e z2)⟩ (fun z _ => absurd z (EZ_e z1)) (fun _ _ => ?_)
        have z1' : EZ t (178000 + e) r1.2 := EZ_mo z1 (by omega) (Nat.le_refl _)
        have z2' : EZ t (178000 + e) r2.2 := EZ_mo z2 (by omega) (Nat.le_refl _)
        have out : ∀ (M1 M2 : Nat → Int32) (υ1 υ2 : MS), M1 5 = x → M2 5 = x → FE σ1 υ1 → FE σ2 υ2 → EZ t (178000 + e) υ1 → EZ t (178000 + e) υ2 → T2 (fun k => x_GV k (e + 1) 12 10 M1 υ1) (fun k => x_GV k (e + 1) 12 10 M2 υ2) (EQ (178000 + (e + 1)) t w XC σ1 σ2) := by
          intro M1 M2 υ1 υ2 h5 h5' q1 q2 y1 y2
          refine T2_suc (fun k => e_tupleBrackets_10 k _ _ _) (fun k => e_tupleBrackets_10 k _ _ _) ?_
          rw [h5, h5', xc]
          refine T2_chk (n_in (by omega) (by omega)) (n_in (by omega) (by omega)) ?_
          rw [n_cl (p := c) (by omega), (tb _ _ q1 q2 9 _ (by omega) (by omega) (by omega)).1, (tb _ _ q1 q2 9 _ (by omega) (by omega) (by omega)).2]
          refine T2_suc (fun k => e_tupleBrackets_1 k _ _ _) (fun k => e_tupleBrackets_1 k _ _ _) ?_
          refine T2_ite (c1 := T 9 c = -1) (c2 := T 9 c = -1) Iff.rfl (fun _ _ => b11Z _ _ _ _ q1 q2 y1 y2) (fun _ _ => ?_)
          exact T2_ite ⟨fun z => absurd z (EZ_e y1), fun z => absurd z (EZ_e y2)⟩ (fun z _ => absurd z (EZ_e y1)) (fun _ _ => b11Z _ _ _ _ q1 q2 y1 y2)
        refine T2_suc (fun k => e_tupleBrackets_2 k _ _ _) (fun k => e_tupleBrackets_2 k _ _ _) ?_
        refine T2_suc (fun k => e_tupleBrackets_3 k _ _ _) (fun k => e_tupleBrackets_3 k _ _ _) ?_
        refine T2_ite (c1 := (0 : Int32) = 0) (c2 := (0 : Int32) = 0) Iff.rfl (fun _ _ => ?_) (fun z _ => absurd rfl z)
        refine T2_suc (fun k => e_tupleBrackets_7 k _ _ _) (fun k => e_tupleBrackets_7 k _ _ _) ?_
        refine T2_ite (show N1 3 ≤ 1000 ↔ N2 3 ≤ 1000 by rw [hN1.2.1, hN2.2.1]) (fun _ _ => ?_) (fun _ _ => ?_)
        · refine T2_suc (fun k => e_tupleBrackets_8 k _ _ _) (fun k => e_tupleBrackets_8 k _ _ _) ?_
          refine T2_suc (fun k => e_tupleBrackets_9 k _ _ _) (fun k => e_tupleBrackets_9 k _ _ _) ?_
          exact out _ _ (mSc r1.2 59 (r1.2.1 59)) (mSc r2.2 59 (r2.2.1 59)) hN1.2.2.2 hN2.2.2.2 (FE_tr k1 (f59 _ _)) (FE_tr k2 (f59 _ _)) (EZ_59 z1') (EZ_59 z2')
        · refine T2_suc (fun k => e_tupleBrackets_9 k _ _ _) (fun k => e_tupleBrackets_9 k _ _ _) ?_
          show T2 (fun k => x_GV k (e + 1) 12 10 _ (mSc r1.2 59 (N1 2))) (fun k => x_GV k (e + 1) 12 10 _ (mSc r2.2 59 (N2 2))) _
          rw [hN1.1, hN2.1]
          exact out _ _ _ _ hN1.2.2.2 hN2.2.2.2 (FE_tr k1 (f59 _ _)) (FE_tr k2 (f59 _ _)) (EZ_dn z1' (Nat.le_refl _) (by omega)) (EZ_dn z2' (Nat.le_refl _) (by omega))
      obtain ⟨q1, q2⟩ := EI_e hJ2
      obtain ⟨p1, p2⟩ := EI_59 hJ2
      rw [q1, q2]
      refine T2_ite Iff.rfl (fun _ _ => ?_) (fun z _ => absurd rfl z)
      refine T2_ob (T2_t (s_pop p1 (by omega) _) (s_pop p2 (by omega) _)) (fun u1 u2 hu => ?_)
      rw [hu.1, hu.2]
      have hD := EI_dn (show t + j ≤ t + j + 1 by omega) hJ2
      have hJ20 := hJ2
      obtain ⟨gA, lA, BA, hA, XA, gB, lB, BB, hB, XB, hX⟩ := hJ2
      have vc : VC gA gB (r1.2.2.2 28) (r2.2.2.2 28) (r1.2.2.2 29 (t + j)) (r2.2.2.2 29 (t + j)) := hX.2.2.1.1 29 (t + j) (Or.inl ⟨rfl, by omega⟩) (by unfold VwR; omega)
      have S1 := hX.1.1
      have S2 := hX.2.1.1
      refine T2_suc (fun k => e_tupleBrackets_3 k _ _ _) (fun k => e_tupleBrackets_3 k _ _ _) ?_
      refine T2_ite (c1 := r1.2.2.2 29 (t + j) = 0) (c2 := r2.2.2.2 29 (t + j) = 0) (VC_0 vc) (fun _ _ => ?_) (fun _ _ => ?_)
      · refine b7 s (o + 1) j w2 _ _ _ _ (by omega) hs1 hs2 hj1 ⟨hN1.1, hN1.2.1, ?_, hN1.2.2.2⟩ ⟨hN2.1, hN2.2.1, ?_, hN2.2.2.2⟩ (FE_tr k1 (f59 _ _)) (FE_tr k2 (f59 _ _)) (by omega) hD
        · show N1 4 + 1 = _
          rw [hN1.2.2.1, n_add1]
        · show N2 4 + 1 = _
          rw [hN2.2.2.1, n_add1]
      have vc0 := vc
      obtain ⟨va, vb, va1, va2, va3, va4, va5, va6, va7⟩ := vc
      have sz := szN_b S1 va2
      refine T2_suc (fun k => e_tupleBrackets_4 k _ _ _) (fun k => e_tupleBrackets_4 k _ _ _) ?_
      refine T2_ite (show 1000 < N1 3 ↔ 1000 < N2 3 by rw [hN1.2.1, hN2.2.1]) (fun z _ => ?_) (fun z _ => ?_)
      · exact b7 s o j w2 _ _ _ _ (by omega) hs1 hs2 hj1 ⟨hN1.1, hN1.2.1, hN1.2.2.1, hN1.2.2.2⟩ ⟨hN2.1, hN2.2.1, hN2.2.2.1, hN2.2.2.2⟩ (FE_tr k1 (f59 _ _)) (FE_tr k2 (f59 _ _)) (by omega) hD
      have hs10 : s ≤ 1000 := by
        by_cases y : s ≤ 1000
        · exact y
        · refine absurd ?_ z
          show (1000 : Int32) < N1 3
          rw [hN1.2.1]
          exact (n_lt (p := 1000) (by decide) (by omega)).mpr (by omega)
      refine T2_ob (T2_t (s_size (σ := mSc r1.2 59 (nI (t + j))) (HS_c S1 rfl rfl rfl) va2 (by exact va1)) (s_size (σ := mSc r2.2 59 (nI (t + j))) (HS_c S2 rfl rfl rfl) va4 (by exact va3))) (fun y1 y2 hy => ?_)
      rw [hy.1, hy.2]
      have esz : szN ((mSc r2.2 59 (nI (t + j))).2.2 28) vb = szN (r1.2.2.2 28) va := (EVb_sz va5).1
      have e3a : N1 3 + (N1 4 + nI (szN (r1.2.2.2 28) va)) = nI (s + (o + szN (r1.2.2.2 28) va)) := by rw [hN1.2.1, hN1.2.2.1, n_add (p := o) (by omega), n_add (p := s) (by omega)]
      have e3b : N2 3 + (N2 4 + nI (szN (r1.2.2.2 28) va)) = nI (s + (o + szN (r1.2.2.2 28) va)) := by rw [hN2.2.1, hN2.2.2.1, n_add (p := o) (by omega), n_add (p := s) (by omega)]
      rw [esz]
      generalize hsz : szN (r1.2.2.2 28) va = z1 at sz e3a e3b
      -- oms, then the value
      have b5 : ∀ (q i : Nat) (M1 M2 : Nat → Int32) (υ1 υ2 : MS), q + i = o → TLo t (s + (o + z1)) o x M1 → TLo t (s + (o + z1)) o x M2 → M1 6 = r1.2.2.2 29 (t + j) → M2 6 = r2.2.2.2 29 (t + j) → M1 7 = nI i → M2 7 = nI i → (s + (o + z1) ≤ 1000 ∨ i = 0) → (∀ a, a ≠ 59 → υ1.1 a = r1.2.1 a) → (∀ a, a ≠ 59 → υ2.1 a = r2.2.1 a) → υ1.2.1 = r1.2.2.1 → υ2.2.1 = r2.2.2.1 → (∀ a, a ≠ 29 → υ1.2.2 a = r1.2.2.2 a) → (∀ a, a ≠ 29 → υ2.2.2 a = r2.2.2.2 a) → υ1.1 59 = nI (t + j + i) → υ2.1 59 = nI (t + j + i) → (∀ a, a < t + j → υ1.2.2 29 a = r1.2.2.2 29 a ∧ υ2.2.2 29 a = r2.2.2.2 29 a) → (∀ a, t + j ≤ a → a < t + j + i → υ1.2.2 29 a = 0 ∧ υ2.2.2 29 a = 0) → T2 (fun k => x_GV k (e + 1) 12 5 M1 υ1) (fun k => x_GV k (e + 1) 12 5 M2 υ2) (EQ (178000 + (e + 1)) t w XC σ1 σ2) := by
        intro q
        induction q with
        | zero =>
          intro i M1 M2 υ1 υ2 hi hM1 hM2 m6 l6 m7 l7 hor s1 s2 lw1 lw2 ro1 ro2 h59 h59' lo zr
          have hio : i = o := by omega
          have b6 : T2 (fun k => x_GV k (e + 1) 12 6 M1 υ1) (fun k => x_GV k (e + 1) 12 6 M2 υ2) (EQ (178000 + (e + 1)) t w XC σ1 σ2) := by
            refine T2_suc (fun k => e_tupleBrackets_6 k _ _ _) (fun k => e_tupleBrackets_6 k _ _ _) ?_
            rw [m6, l6]
            have hib : t + j + i < 185000 := by omega
            refine T2_ob (T2_t (s_push h59 hib _) (s_push h59' hib _)) (fun v1 v2 hv => ?_)
            rw [hv.1, hv.2]
            show T2 (fun k => x_GV k (e + 1) 12 7 (upd M1 4 0) (mPu υ1 (t + j + i) (r1.2.2.2 29 (t + j)))) (fun k => x_GV k (e + 1) 12 7 (upd M2 4 0) (mPu υ2 (t + j + i) (r2.2.2.2 29 (t + j)))) _
            have c1 : ∀ a, a ≠ 59 → (mPu υ1 (t + j + i) (r1.2.2.2 29 (t + j))).1 a = r1.2.1 a := fun a ha => (mPu_s ha).trans (s1 a ha)
            have c2 : ∀ a, a ≠ 59 → (mPu υ2 (t + j + i) (r2.2.2.2 29 (t + j))).1 a = r2.2.1 a := fun a ha => (mPu_s ha).trans (s2 a ha)
            have c3 : ∀ a, a ≠ 29 → (mPu υ1 (t + j + i) (r1.2.2.2 29 (t + j))).2.2 a = r1.2.2.2 a := fun a ha => (mPu_o ha).trans (ro1 a ha)
            have c4 : ∀ a, a ≠ 29 → (mPu υ2 (t + j + i) (r2.2.2.2 29 (t + j))).2.2 a = r2.2.2.2 a := fun a ha => (mPu_o ha).trans (ro2 a ha)
            have hK : EI (t + j + i + 1) w2 XC (mPu υ1 (t + j + i) (r1.2.2.2 29 (t + j))) (mPu υ2 (t + j + i) (r2.2.2.2 29 (t + j))) := by
              refine EI_pile hJ20 c1 c2 lw1 lw2 c3 c4 rfl rfl (fun a ha => ?_)
              rw [mPu_29, mPu_29]
              by_cases ea : a = t + j + i
              · rw [ea, upd_same, upd_same]; exact Or.inl ⟨t + j, by omega, rfl, rfl⟩
              · rw [upd_other ea, upd_other ea]
                by_cases eb : a < t + j
                · exact Or.inl ⟨a, by omega, (lo a eb).1, (lo a eb).2⟩
                · exact Or.inr (zr a (by omega) (by omega))
            rw [show t + j + i + 1 = t + (j + i + 1) by omega] at hK
            exact b7 (s + (o + z1)) 0 (j + i + 1) w2 _ _ _ _ (by omega) (by omega) (by omega) (fun y => by omega) ⟨hM1.1, hM1.2.1, rfl, hM1.2.2.2⟩ ⟨hM2.1, hM2.2.1, rfl, hM2.2.2.2⟩ (FE_tr k1 (FE_pl c1 c3)) (FE_tr k2 (FE_pl c2 c4)) (by omega) hK
          refine T2_suc (fun k => e_tupleBrackets_5 k _ _ _) (fun k => e_tupleBrackets_5 k _ _ _) ?_
          rw [hM1.2.2.1, hM2.2.2.1, m7, l7]
          exact T2_ite Iff.rfl (fun _ _ => b6) (fun y _ => absurd ((n_le (by omega) (by omega)).mpr (by omega)) y)
        | succ q ihq =>
          intro i M1 M2 υ1 υ2 hi hM1 hM2 m6 l6 m7 l7 hor s1 s2 lw1 lw2 ro1 ro2 h59 h59' lo zr
          refine T2_suc (fun k => e_tupleBrackets_5 k _ _ _) (fun k => e_tupleBrackets_5 k _ _ _) ?_
          rw [hM1.2.2.1, hM2.2.2.1, m7, l7, hM1.2.1, hM2.2.1]
          refine T2_ite Iff.rfl (fun y _ => absurd ((n_le (by omega) (by omega)).mp y) (by omega)) (fun _ _ => ?_)
          refine T2_ite Iff.rfl (fun y _ => ?_) (fun y _ => ?_)
          · have y := (n_lt (p := 1000) (by decide) (by omega)).mp y
            have hi0 : i = 0 := by omega
            -- too large: the value is pushed, then all goes
            refine T2_suc (fun k => e_tupleBrackets_6 k _ _ _) (fun k => e_tupleBrackets_6 k _ _ _) ?_
            rw [m6, l6]
            have hib : t + j + i < 185000 := by omega
            refine T2_ob (T2_t (s_push h59 hib _) (s_push h59' hib _)) (fun v1 v2 hv => ?_)
            rw [hv.1, hv.2]
            show T2 (fun k => x_GV k (e + 1) 12 7 (upd M1 4 0) (mPu υ1 (t + j + i) (r1.2.2.2 29 (t + j)))) (fun k => x_GV k (e + 1) 12 7 (upd M2 4 0) (mPu υ2 (t + j + i) (r2.2.2.2 29 (t + j)))) _
            have c1 : ∀ a, a ≠ 59 → (mPu υ1 (t + j + i) (r1.2.2.2 29 (t + j))).1 a = r1.2.1 a := fun a ha => (mPu_s ha).trans (s1 a ha)
            have c2 : ∀ a, a ≠ 59 → (mPu υ2 (t + j + i) (r2.2.2.2 29 (t + j))).1 a = r2.2.1 a := fun a ha => (mPu_s ha).trans (s2 a ha)
            have c3 : ∀ a, a ≠ 29 → (mPu υ1 (t + j + i) (r1.2.2.2 29 (t + j))).2.2 a = r1.2.2.2 a := fun a ha => (mPu_o ha).trans (ro1 a ha)
            have c4 : ∀ a, a ≠ 29 → (mPu υ2 (t + j + i) (r2.2.2.2 29 (t + j))).2.2 a = r2.2.2.2 a := fun a ha => (mPu_o ha).trans (ro2 a ha)
            have hK : EI (t + j + i + 1) w2 XC (mPu υ1 (t + j + i) (r1.2.2.2 29 (t + j))) (mPu υ2 (t + j + i) (r2.2.2.2 29 (t + j))) := by
              refine EI_pile hJ20 c1 c2 lw1 lw2 c3 c4 rfl rfl (fun a ha => ?_)
              rw [mPu_29, mPu_29]
              by_cases ea : a = t + j + i
              · rw [ea, upd_same, upd_same]; exact Or.inl ⟨t + j, by omega, rfl, rfl⟩
              · rw [upd_other ea, upd_other ea]
                exact Or.inl ⟨a, by omega, (lo a (by omega)).1, (lo a (by omega)).2⟩
            rw [show t + j + i + 1 = t + (j + i + 1) by omega] at hK
            exact b7 (s + (o + z1)) 0 (j + i + 1) w2 _ _ _ _ (by omega) (by omega) (by omega) (fun y => by omega) ⟨hM1.1, hM1.2.1, rfl, hM1.2.2.2⟩ ⟨hM2.1, hM2.2.1, rfl, hM2.2.2.2⟩ (FE_tr k1 (FE_pl c1 c3)) (FE_tr k2 (FE_pl c2 c4)) (by omega) hK
          · have y : s + (o + z1) ≤ 1000 := by
              by_cases y' : s + (o + z1) ≤ 1000
              · exact y'
              · exact absurd ((n_lt (p := 1000) (by decide) (by omega)).mpr (by omega)) y
            have hib : t + j + i < 185000 := by omega
            refine T2_ob (T2_t (s_push h59 hib _) (s_push h59' hib _)) (fun v1 v2 hv => ?_)
            rw [hv.1, hv.2]
            show T2 (fun k => x_GV k (e + 1) 12 5 (upd M1 7 (nI i + 1)) (mPu υ1 (t + j + i) 0)) (fun k => x_GV k (e + 1) 12 5 (upd M2 7 (nI i + 1)) (mPu υ2 (t + j + i) 0)) _
            refine ihq (i + 1) _ _ _ _ (by omega) ⟨hM1.1, hM1.2.1, hM1.2.2.1, hM1.2.2.2⟩ ⟨hM2.1, hM2.2.1, hM2.2.2.1, hM2.2.2.2⟩ m6 l6 (n_add1 i) (n_add1 i) (Or.inl y) (fun a ha => (mPu_s ha).trans (s1 a ha)) (fun a ha => (mPu_s ha).trans (s2 a ha)) lw1 lw2 (fun a ha => (mPu_o ha).trans (ro1 a ha)) (fun a ha => (mPu_o ha).trans (ro2 a ha)) rfl rfl (fun a ha => ?_) (fun a h1 h2 => ?_)
            · rw [mPu_29, mPu_29, upd_other (by omega), upd_other (by omega)]; exact lo a ha
            · rw [mPu_29, mPu_29]
              by_cases ea : a = t + j + i
              · rw [ea, upd_same, upd_same]; exact ⟨rfl, rfl⟩
              · rw [upd_other ea, upd_other ea]; exact zr a h1 (by omega)
      refine b5 o 0 _ _ (mSc r1.2 59 (nI (t + j))) (mSc r2.2 59 (nI (t + j))) (by omega) ⟨hN1.1, ?_, hN1.2.2.1, hN1.2.2.2⟩ ⟨hN2.1, ?_, hN2.2.2.1, hN2.2.2.2⟩ rfl rfl rfl rfl (Or.inr rfl) (fun a ha => upd_other ha) (fun a ha => upd_other ha) rfl rfl (fun _ _ => rfl) (fun _ _ => rfl) rfl rfl (fun _ _ => ⟨rfl, rfl⟩) (fun a h1 h2 => by omega)
      · show N1 3 + (N1 4 + nI (szN ((mSc r1.2 59 (nI (t + j))).2.2 28) va)) = _
        rw [show szN ((mSc r1.2 59 (nI (t + j))).2.2 28) va = z1 from hsz]; exact e3a
      · exact e3b
  refine T2_suc (fun k => e_tupleBrackets_0 k _ _ _) (fun k => e_tupleBrackets_0 k _ _ _) ?_
  obtain ⟨p1, p2⟩ := EI_59 hI
  rw [d1, d2, p1, p2]
  refine T2_chk (n_in (by omega) (by omega)) (n_in (by omega) (by omega)) ?_
  rw [n_cl (p := n) (by omega), hS1.1 6 _ (by omega) (by omega) (by omega), hS2.1 6 _ (by omega) (by omega) (by omega)]
  exact b1 f0 m0 1 0 0 w (T 6 n) _ _ σ1 σ2 hW (by omega) (by omega) (by omega) (fun _ => by omega) (fun _ => rfl) ⟨rfl, rfl, rfl, rfl⟩ ⟨rfl, rfl, rfl, rfl⟩ FE_rf FE_rf (Nat.le_refl _) hI
end ETU
