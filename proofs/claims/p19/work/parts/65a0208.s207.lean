section JnS207
/-! Evaluation on both sides (reference): tuples in brackets. -/
section MRE
variable {g : Nat → Prop} {l : List Nat} {B h t u X : Nat} {σ τ : MS}
/-- other roots that could be reached before: no more lives -/
theorem MI_re (hM : MI t X g l B h σ) (h54 : τ.1 54 = σ.1 54) (h55 : τ.1 55 = σ.1 55) (h28 : τ.2.2 28 = σ.2.2 28) (hQ : RtQ τ) (hR : ∀ a i, RtP u τ a i → ∃ m, τ.2.2 a i = nI m ∧ (m < 3 ∨ Rch (σ.2.2 28) (RoS t σ) m)) : MI u X g l B h τ := by
  obtain ⟨m1, m2, m3, m4⟩ := hM
  have hb := HS_b m1
  have gd : ∀ m, Rch (σ.2.2 28) (RoS t σ) m → g m := fun m z => Rch_good m1.2.2.2.2 hb.2 (fun v => RoS_good m1 m3) z
  refine ⟨HS_c m1 h54 h55 h28, hQ, fun a i z => ?_, ?_⟩
  · obtain ⟨m, e1, e2⟩ := hR a i z
    exact ⟨m, e1, e2.imp id (gd m)⟩
  · rw [h28]
    refine LVc_mo (fun v z => ?_) m4
    obtain ⟨z1, z2, a, i, z3, z4⟩ := z
    obtain ⟨m, e1, e2⟩ := hR a i z3
    have bm : m < 1740000 := HS_vb m1 (e2.imp id (gd m))
    have e : v = m := (n_eq (by omega) (by omega)).mp (z4.symm.trans e1)
    rw [e]
    exact e2.resolve_left (by omega)
theorem MI_rt {a i : Nat} (hM : MI t X g l B h σ) (hr : RtP t σ a i) : ∃ m, σ.2.2 a i = nI m ∧ (m < 3 ∨ Rch (σ.2.2 28) (RoS t σ) m) := by
  obtain ⟨m, q1, q2⟩ := hM.2.2.1 a i hr
  refine ⟨m, q1, ?_⟩
  by_cases c : m < 3
  · exact Or.inl c
  · exact Or.inr (Rch_b ⟨by omega, HS_vb hM.1 q2, a, i, hr, q1⟩)
theorem RtP_n29 {a i : Nat} (ha : a ≠ 29) : RtP u σ a i ↔ RtP t σ a i := by
  unfold RtP
  constructor
  · intro z; exact z.imp (fun y => absurd y.1 ha) id
  · intro z; exact z.imp (fun y => absurd y.1 ha) id
end MRE
section ETU
variable {T : Nat → Nat → Int32} {FN : Nat → Nat → Prop} {O r K d t u w XC : Nat} {lc : Nat → Prop} {σ1 σ2 τ1 τ2 : MS}
/-- the piles alone are others: what lies upon them lay there before, or is om -/
theorem EI_pile (hE : EI t w XC σ1 σ2) (s1 : ∀ j, j ≠ 59 → τ1.1 j = σ1.1 j) (s2 : ∀ j, j ≠ 59 → τ2.1 j = σ2.1 j) (l1 : τ1.2.1 = σ1.2.1) (l2 : τ2.2.1 = σ2.2.1) (r1 : ∀ a, a ≠ 29 → τ1.2.2 a = σ1.2.2 a) (r2 : ∀ a, a ≠ 29 → τ2.2.2 a = σ2.2.2 a) (u1 : τ1.1 59 = nI u) (u2 : τ2.1 59 = nI u) (hp : ∀ i, i < u → (∃ j, j < t ∧ τ1.2.2 29 i = σ1.2.2 29 j ∧ τ2.2.2 29 i = σ2.2.2 29 j) ∨ (τ1.2.2 29 i = 0 ∧ τ2.2.2 29 i = 0)) : EI u w XC τ1 τ2 := by
  obtain ⟨g1, l1', B1, h1, X1, g2, l2', B2, h2, X2, m1, m2, hR, i1, i2, t1, e1, e2, w1, hw, x1, x2, ⟨ty1, ty2⟩, a, a1, a2⟩ := hE
  have rc1 : ∀ x i, RtP u τ1 x i ↔ RtP u σ1 x i := RtP_c (s1 63 (by decide)) (s1 72 (by decide)) (r1 30 (by decide)) (r1 31 (by decide))
  have rc2 : ∀ x i, RtP u τ2 x i ↔ RtP u σ2 x i := RtP_c (s2 63 (by decide)) (s2 72 (by decide)) (r2 30 (by decide)) (r2 31 (by decide))
  have q1 : RtQ τ1 := RtQ_c (s1 63 (by decide)) (s1 72 (by decide)) (r1 30 (by decide)) (r1 31 (by decide)) m1.2.1
  have q2 : RtQ τ2 := RtQ_c (s2 63 (by decide)) (s2 72 (by decide)) (r2 30 (by decide)) (r2 31 (by decide)) m2.2.1
  have n1 : MI u X1 g1 l1' B1 h1 τ1 := MI_re m1 (s1 54 (by decide)) (s1 55 (by decide)) (r1 28 (by decide)) q1 (fun x i z => by
    have z := (rc1 x i).mp z
    by_cases e : x = 29
    · subst e
      have hi : i < u := by unfold RtP at z; omega
      rcases hp i hi with ⟨j, j1, j2, j3⟩ | ⟨j2, j3⟩
      · rw [j2]; exact MI_rt m1 (Or.inl ⟨rfl, j1⟩)
      · exact ⟨0, j2, Or.inl (by decide)⟩
    · rw [r1 x e]; exact MI_rt m1 ((RtP_n29 e).mp z))
  have n2 : MI u X2 g2 l2' B2 h2 τ2 := MI_re m2 (s2 54 (by decide)) (s2 55 (by decide)) (r2 28 (by decide)) q2 (fun x i z => by
    have z := (rc2 x i).mp z
    by_cases e : x = 29
    · subst e
      have hi : i < u := by unfold RtP at z; omega
      rcases hp i hi with ⟨j, j1, j2, j3⟩ | ⟨j2, j3⟩
      · rw [j3]; exact MI_rt m2 (Or.inl ⟨rfl, j1⟩)
      · exact ⟨0, j3, Or.inl (by decide)⟩
    · rw [r2 x e]; exact MI_rt m2 ((RtP_n29 e).mp z))
  refine ⟨g1, l1', B1, h1, X1, g2, l2', B2, h2, X2, n1, n2, ⟨fun x i z hv => ?_, fun x i hx hz hn => ?_, fun j hj => ?_, ?_⟩, IT_c (s1 72 (by decide)) (r1 34 (by decide)) (r1 35 (by decide)) (r1 28 (by decide)) i1, IT_c (s2 72 (by decide)) (r2 34 (by decide)) (r2 35 (by decide)) (r2 28 (by decide)) i2, u1, (s1 56 (by decide)).trans e1, (s2 56 (by decide)).trans e2, (s1 57 (by decide)).trans w1, hw, x1, x2, ⟨by rw [r1 2 (by decide)]; exact ty1, by rw [r1 2 (by decide), r2 2 (by decide)]; exact ty2⟩, a, (s1 95 (by decide)).trans a1, a2⟩
  · have z := (rc1 x i).mp z
    rw [r1 28 (by decide), r2 28 (by decide)]
    by_cases e : x = 29
    · subst e
      have hi : i < u := by unfold RtP at z; omega
      rcases hp i hi with ⟨j, j1, j2, j3⟩ | ⟨j2, j3⟩
      · rw [j2, j3]; exact hR.1 29 j (Or.inl ⟨rfl, j1⟩) hv
      · rw [j2, j3]; exact VC_00
    · rw [r1 x e, r2 x e]; exact hR.1 x i ((RtP_n29 e).mp z) hv
  · have e : x ≠ 29 := by unfold AlR at hx; omega
    rw [r1 x e, r2 x e]; exact hR.2.1 x i hx hz (fun z => hn ((InA_c (σ := σ1) (ρ := τ1) (s1 63 (by decide)) (s1 72 (by decide)) (s1 22 (by decide)) (s1 24 (by decide)) (s1 30 (by decide)) (s1 44 (by decide)) (fun u _ => by rw [r1 21 (by decide)]) (fun j _ => by rw [r1 30 (by decide)]) (fun p _ j _ => by rw [r1 31 (by decide)]) x i).mpr z))
  · by_cases e : j = 59
    · rw [e, u1, u2]
    · rw [s1 j e, s2 j e]; exact hR.2.2.1 j hj
  · rw [l1, l2]; exact hR.2.2.2
theorem FE_pl {σ τ : MS} (s : ∀ j, j ≠ 59 → τ.1 j = σ.1 j) (r : ∀ a, a ≠ 29 → τ.2.2 a = σ.2.2 a) : FE σ τ := ⟨fun j _ _ h _ => s j h, fun a i h _ _ => by rw [r a (by unfold AlR at h; omega)], r 2 (by decide), KPn_same (r 28 (by decide)) (fun a h => r a (by omega))⟩
theorem EZ_dn {a b c : Nat} {σ : MS} (h : EZ a b σ) (hc : c ≤ a) (hb : c ≤ b) : EZ c b (mSc σ 59 (nI c)) := by
  obtain ⟨g, l, B, h', t, m, c1, c2, c3, c4, c5, c6, c7⟩ := h
  exact ⟨g, l, B, h', c, MI_59 (MI_mo m (by omega)), rfl, Nat.le_refl _, hb, c4, ErB_c rfl c5, c6, c7⟩
theorem EZ_59 {a b : Nat} {σ : MS} (h : EZ a b σ) : EZ a b (mSc σ 59 (σ.1 59)) := by
  obtain ⟨g, l, B, h', t, m, c1, c2, c3, c4, c5, c6, c7⟩ := h
  exact ⟨g, l, B, h', t, MI_59 m, c1, c2, c3, c4, ErB_c rfl c5, c6, c7⟩
/-- locals of tupleBrackets -/
def TLo (t s o : Nat) (x : Int32) (N : Nat → Int32) : Prop := N 2 = nI t ∧ N 3 = nI s ∧ N 4 = nI o ∧ N 5 = x
theorem b_tup {n e f0 m0 : Nat} (hE : PE T FN e) (hn : (1 ≤ n ∧ n < LNo T % 70001)) (hO : 1 ≤ O) (hm0 : m0 ≤ 70000) (hW : WN T FN f0 3 (O - 1) m0 K lc (T 6 n)) (hP : PC T FN O r K lc (e + 3) t w XC σ1) (hI : EI t w XC σ1 σ2) {L1 L2 : Nat → Int32} (d1 : L1 1 = nI n) (d2 : L2 1 = nI n) : T2 (fun k => x_GV k (e + 1) 12 0 L1 σ1) (fun k => x_GV k (e + 1) 12 0 L2 σ2) (EQ (178000 + (e + 1)) t w XC σ1 σ2) := by
  have ht := PC_t hP
  have hXC := hP.2.1
  have hd13 := hP.2.2.2.2.1
  have hS1 := hP.1
  have hS2 := EI_ST hI hS1
  have tb : ∀ (τ1 τ2 : MS), FE σ1 τ1 → FE σ2 τ2 → ∀ a i, 4 ≤ a → a ≤ 9 → (1 ≤ i ∧ i < LNo T % 70001) → τ1.2.2 a i = T a i ∧ τ2.2.2 a i = T a i := fun τ1 τ2 f1 f2 a i h1 h2 h3 => ⟨(STb_fe hS1 f1).1 a i h1 (by omega) ⟨fun _ => h3, fun z => by omega⟩, (STb_fe hS2 f2).1 a i h1 (by omega) ⟨fun _ => h3, fun z => by omega⟩⟩
  have b13 : ∀ (N1 N2 : Nat → Int32) (v1 v2 : MS), EQ (178000 + (e + 1)) t w XC σ1 σ2 (0, v1) (0, v2) → T2 (fun k => x_GV k (e + 1) 12 13 N1 v1) (fun k => x_GV k (e + 1) 12 13 N2 v2) (EQ (178000 + (e + 1)) t w XC σ1 σ2) := fun N1 N2 v1 v2 h => by
    refine T2_suc (fun k => e_tupleBrackets_13 k _ _ _) (fun k => e_tupleBrackets_13 k _ _ _) ?_
    exact T2_some h
  have b12Z : ∀ (N1 N2 : Nat → Int32) (τ1 τ2 : MS), FE σ1 τ1 → FE σ2 τ2 → EZ t (178000 + e) τ1 → EZ t (178000 + e) τ2 → T2 (fun k => x_GV k (e + 1) 12 12 N1 τ1) (fun k => x_GV k (e + 1) 12 12 N2 τ2) (EQ (178000 + (e + 1)) t w XC σ1 σ2) := fun N1 N2 τ1 τ2 f1 f2 z1 z2 => by
    refine T2_suc (fun k => e_tupleBrackets_12 k _ _ _) (fun k => e_tupleBrackets_12 k _ _ _) ?_
    refine T2_ite ⟨fun z => absurd z (EZ_e z1), fun z => absurd z (EZ_e z2)⟩ (fun z _ => absurd z (EZ_e z1)) (fun _ _ => ?_)
    exact b13 _ _ _ _ ⟨f1, f2, Or.inr ⟨EZ_mo z1 (Nat.le_refl _) (by omega), EZ_mo z2 (Nat.le_refl _) (by omega)⟩⟩
  have b11Z : ∀ (N1 N2 : Nat → Int32) (τ1 τ2 : MS), FE σ1 τ1 → FE σ2 τ2 → EZ t (178000 + e) τ1 → EZ t (178000 + e) τ2 → T2 (fun k => x_GV k (e + 1) 12 11 N1 τ1) (fun k => x_GV k (e + 1) 12 11 N2 τ2) (EQ (178000 + (e + 1)) t w XC σ1 σ2) := fun N1 N2 τ1 τ2 f1 f2 z1 z2 => by
    refine T2_suc (fun k => e_tupleBrackets_11 k _ _ _) (fun k => e_tupleBrackets_11 k _ _ _) ?_
    refine T2_ite ⟨fun z => absurd z (EZ_e z1), fun z => absurd z (EZ_e z2)⟩ (fun z _ => absurd z (EZ_e z1)) (fun _ _ => ?_)
    exact b12Z _ _ _ _ f1 f2 z1 z2
  have f59 : ∀ (σ : MS) (x : Int32), FE σ (mSc σ 59 x) := fun σ x => FE_sc (Or.inr (Or.inr (Or.inl rfl)))
  -- the tuple is made
  have b12 : ∀ (j w' : Nat) (N1 N2 : Nat → Int32) (τ1 τ2 : MS), j ≤ 1000 → N1 2 = nI t → N2 2 = nI t → FE σ1 τ1 → FE σ2 τ2 → w ≤ w' → EI (t + j) w' XC τ1 τ2 → T2 (fun k => x_GV k (e + 1) 12 12 N1 τ1) (fun k => x_GV k (e + 1) 12 12 N2 τ2) (EQ (178000 + (e + 1)) t w XC σ1 σ2) := by
    intro j w' N1 N2 τ1 τ2 hj n2 o2 f1 f2 hw' hJ
    obtain ⟨e1, e2⟩ := EI_e hJ
    refine T2_suc (fun k => e_tupleBrackets_12 k _ _ _) (fun k => e_tupleBrackets_12 k _ _ _) ?_
    rw [e1, e2]
    refine T2_ite Iff.rfl (fun _ _ => ?_) (fun z _ => absurd rfl z)
    refine T2_ob (E_sw hXC (by omega) hJ) (fun r1 r2 hr => ?_)
    obtain ⟨k1, k2, g1, l1, B1, h1, X1, g2, l2, B2, h2, X2, hX, rm1, rm2⟩ := hr
    obtain ⟨a1, a2, aR, i1, i2, t1, q1, q2, w1, hw, x1, x2, ⟨ty1, ty2⟩, a, y1, y2⟩ := hX
    have al : ∀ j, AlS j → r2.2.1 j = r1.2.1 j := fun j h => (aR.2.2.1 j h).symm
    have t2 : r2.2.1 59 = nI (t + j) := (al 59 (by unfold AlS; omega)).trans t1
    have w2 : r2.2.1 57 = nI w' := (al 57 (by unfold AlS; omega)).trans w1
    have pl : PlE g1 g2 r1.2 r2.2 t j := fun i hi => aR.1 29 (t + i) (Or.inl ⟨rfl, by omega⟩) (by unfold VwR; omega)
    have m1 : MI t X1 g1 l1 B1 h1 r1.2 := MI_mo a1 (by omega)
    have m2 : MI t X2 g2 l2 B2 h2 r2.2 := MI_mo a2 (by omega)
    rw [n2, o2]
    refine T2_ob (T2_of (s_tupleOf (L := upd (fun _ => 0) 1 (nI t)) a1.1 ⟨0, q1, by decide⟩ t1 (by omega) (PlE_1 pl) rfl) (s_tupleOf (L := upd (fun _ => 0) 1 (nI t)) a2.1 ⟨0, q2, by decide⟩ t2 (by omega) (PlE_2 pl) rfl) (fun n' => Pm_wl (fun k => wl_tupleOf k _ _ _) (fun k => wl_tupleOf k _ _ _) (k_tupleOf a1.1 a2.1 q1 q2 t1 t2 (by omega) (by omega) (by omega) pl rfl rfl))) (fun s1 s2 hs => ?_)
    obtain ⟨⟨hq, wl1, wl2⟩, o1, o2'⟩ := hs
    have o1' := o1
    have o2'' := o2'
    obtain ⟨_, _, _, _, fw1, _⟩ := o1'
    obtain ⟨_, _, _, _, fw2, _⟩ := o2''
    have p57 : s1.2.1 57 = s2.2.1 57 := by rw [fw1.1 57 (by decide), fw2.1 57 (by decide), w1, w2]
    have p95 := fw1.1 95 (by decide)
    have p95' := fw2.1 95 (by decide)
    exact E_ans m1 m2 (RA_mo (by omega) aR) i1 i2 (by omega) ty1 ty2 ⟨a, p95.trans y1, y2⟩ (p95.trans ((aR.2.2.1 95 (by unfold AlS; omega)).trans p95'.symm)) (SO_of (W := 0) (by omega) m1 w1 hw.1 x1 (VQ_of o1)) (SO_of (W := 0) (by omega) m2 w2 hw.1 x2 (VQ_of o2')) ⟨KR_of (c := 8600) (VO_54 o1) (VO_54 o2') (by omega) hq p57, by rw [wl1, wl2]; exact aR.2.2.2⟩ (fun v1 v2 h1 h2 h => b13 _ _ _ _ (EQ_ans (FE_tr f1 k1) (FE_tr f2 k2) hw' (by omega) h1 h2 h))
  -- one member after another
  have b1 : ∀ (f m s o j w' : Nat) (x : Int32) (N1 N2 : Nat → Int32) (τ1 τ2 : MS), WN T FN f 3 (O - 1) m K lc x → o + m ≤ 70000 → 1 ≤ s → s ≤ 72000 → (s ≤ 1000 → j + 1 ≤ s) → (1000 < s → j = 0) → TLo t s o x N1 → TLo t s o x N2 → FE σ1 τ1 → FE σ2 τ2 → w ≤ w' → EI (t + j) w' XC τ1 τ2 → T2 (fun k => x_GV k (e + 1) 12 1 N1 τ1) (fun k => x_GV k (e + 1) 12 1 N2 τ2) (EQ (178000 + (e + 1)) t w XC σ1 σ2) := by
    intro f
    induction f with
    | zero => intro m s o j w' x N1 N2 τ1 τ2 hW; exact hW.elim
    | succ f ih =>
      intro m s o j w' x N1 N2 τ1 τ2 hW hom hs1 hs2 hj1 hj2 hN1 hN2 f1 f2 hw' hJ
      have hj : j ≤ 999 := by omega
      unfold WN at hW
      rcases hW with ⟨z, _⟩ | ⟨z, _⟩ | ⟨z, _⟩ | ⟨_, hor⟩ | ⟨z, _⟩ | ⟨z, _⟩ | ⟨z, _⟩
      case inl => exact absurd z (by decide)
      case inr.inl => exact absurd z (by decide)
      case inr.inr.inl => exact absurd z (by decide)
      case inr.inr.inr.inr.inl => exact absurd z (by decide)
      case inr.inr.inr.inr.inr.inl => exact absurd z (by decide)
      case inr.inr.inr.inr.inr.inr => exact absurd z (by decide)
      obtain ⟨e1, e2⟩ := EI_e hJ
      rcases hor with ⟨_, xz⟩ | ⟨m', c, rm, xc, hc, W0, W9⟩
      · refine T2_suc (fun k => e_tupleBrackets_1 k _ _ _) (fun k => e_tupleBrackets_1 k _ _ _) ?_
        rw [hN1.2.2.2, hN2.2.2.2, xz]
        refine T2_ite Iff.rfl (fun _ _ => ?_) (fun z _ => absurd rfl z)
        refine T2_suc (fun k => e_tupleBrackets_11 k _ _ _) (fun k => e_tupleBrackets_11 k _ _ _) ?_
        rw [e1, e2, hN1.2.1, hN2.2.1]
        refine T2_ite Iff.rfl (fun _ _ => ?_) (fun z _ => absurd rfl z)
        refine T2_ite Iff.rfl (fun _ _ => b12 j w' _ _ τ1 τ2 (by omega) hN1.1 hN2.1 f1 f2 hw' hJ) (fun _ _ => ?_)
        refine T2_ob (T2_t (s_fail _ _) (s_fail _ _)) (fun r1 r2 hr => ?_)
        rw [hr.1, hr.2]
        obtain ⟨z1, z2⟩ := E_er (a := t) (b := 178000 + e) (e := 5) hXC hJ (by decide) (by decide) (by omega) (by omega)
        exact b12Z _ _ _ _ (FE_tr f1 FE_er) (FE_tr f2 FE_er) z1 z2
      -- the next
      have b10 : ∀ (s' o' j' w2 : Nat) (M1 M2 : Nat → Int32) (υ1 υ2 : MS), o' + m' ≤ 70000 → 1 ≤ s' → s' ≤ 72000 → (s' ≤ 1000 → j' + 1 ≤ s') → (1000 < s' → j' = 0) → TLo t s' o' x M1 → TLo t s' o' x M2 → FE σ1 υ1 → FE σ2 υ2 → w ≤ w2 → EI (t + j') w2 XC υ1 υ2 → T2 (fun k => x_GV k (e + 1) 12 10 M1 υ1) (fun k => x_GV k (e + 1) 12 10 M2 υ2) (EQ (178000 + (e + 1)) t w XC σ1 σ2) := by
        intro s' o' j' w2 M1 M2 υ1 υ2 h1 h2 h3 h4 h5 hM1 hM2 k1 k2 hw2 hJ2
        refine T2_suc (fun k => e_tupleBrackets_10 k _ _ _) (fun k => e_tupleBrackets_10 k _ _ _) ?_
        rw [hM1.2.2.2, hM2.2.2.2, xc]
        refine T2_chk (n_in (by omega) (by omega)) (n_in (by omega) (by omega)) ?_
        rw [n_cl (p := c) (by omega), (tb _ _ k1 k2 9 _ (by omega) (by omega) (by omega)).1, (tb _ _ k1 k2 9 _ (by omega) (by omega) (by omega)).2]
        exact ih m' s' o' j' w2 (T 9 c) _ _ υ1 υ2 W9 h1 h2 h3 h4 h5 ⟨hM1.1, hM1.2.1, hM1.2.2.1, rfl⟩ ⟨hM2.1, hM2.2.1, hM2.2.2.1, rfl⟩ k1 k2 hw2 hJ2
      have b7 : ∀ (s' o' j' w2 : Nat) (M1 M2 : Nat → Int32) (υ1 υ2 : MS), o' + m' ≤ 70000 → 1 ≤ s' → s' ≤ 72000 → (s' ≤ 1000 → j' + 1 ≤ s') → TLo t s' o' x M1 → TLo t s' o' x M2 → FE σ1 υ1 → FE σ2 υ2 → w ≤ w2 → EI (t + j') w2 XC υ1 υ2 → T2 (fun k => x_GV k (e + 1) 12 7 M1 υ1) (fun k => x_GV k (e + 1) 12 7 M2 υ2) (EQ (178000 + (e + 1)) t w XC σ1 σ2) := by
        intro s' o' j' w2 M1 M2 υ1 υ2 h1 h2 h3 h4 hM1 hM2 k1 k2 hw2 hJ2
        obtain ⟨p1, p2⟩ := EI_59 hJ2
        refine T2_suc (fun k => e_tupleBrackets_7 k _ _ _) (fun k => e_tupleBrackets_7 k _ _ _) ?_
        rw [hM1.2.1, hM2.2.1, hM1.1, hM2.1]
        refine T2_ite Iff.rfl (fun z _ => ?_) (fun z _ => ?_)
        · have z := (n_le (q := 1000) (by omega) (by decide)).mp z
          refine T2_suc (fun k => e_tupleBrackets_8 k _ _ _) (fun k => e_tupleBrackets_8 k _ _ _) ?_
          refine T2_suc (fun k => e_tupleBrackets_9 k _ _ _) (fun k => e_tupleBrackets_9 k _ _ _) ?_
          rw [p1, p2]
          exact b10 s' o' j' w2 _ _ (mSc υ1 59 (nI (t + j'))) (mSc υ2 59 (nI (t + j'))) h1 h2 h3 h4 (fun y => by omega) hM1 hM2 (FE_tr k1 (f59 _ _)) (FE_tr k2 (f59 _ _)) hw2 (EI_dn (Nat.le_refl _) hJ2)
        · have z : 1000 < s' := by
            by_cases y : s' ≤ 1000
            · exact absurd ((n_le (q := 1000) (by omega) (by decide)).mpr y) z
            · omega
          refine T2_suc (fun k => e_tupleBrackets_9 k _ _ _) (fun k => e_tupleBrackets_9 k _ _ _) ?_
          exact b10 s' o' 0 w2 _ _ (mSc υ1 59 (nI (t + 0))) (mSc υ2 59 (nI (t + 0))) h1 h2 h3 (fun y => by omega) (fun _ => rfl) hM1 hM2 (FE_tr k1 (f59 _ _)) (FE_tr k2 (f59 _ _)) hw2 (EI_dn (by omega) hJ2)
      refine T2_suc (fun k => e_tupleBrackets_1 k _ _ _) (fun k => e_tupleBrackets_1 k _ _ _) ?_
      rw [hN1.2.2.2, hN2.2.2.2, e1, e2]
      refine T2_ite Iff.rfl (fun z _ => ?_) (fun _ _ => ?_)
      · rw [xc] at z
        have : (nI c).toInt = (-1 : Int32).toInt := by rw [z]
        rw [n_int (by omega), show (-1 : Int32).toInt = -1 from by decide] at this
        omega
      refine T2_ite Iff.rfl (fun _ _ => ?_) (fun z _ => absurd rfl z)
      refine T2_od ?_
      refine T2_ob (hE f (O - 1) 14 K lc x (t + j) w' XC τ1 τ2 _ _ W0 (PC_in (PC_fe hP f1 hw' (EI_w hJ)) hO (Nat.le_refl _) (by omega) (by omega) (by omega)) hJ rfl rfl) (fun r1 r2 hr => ?_)
      obtain ⟨g1, g2, hr⟩ := hr
      have k1 := FE_tr f1 g1
      have k2 := FE_tr f2 g2
      rcases hr with ⟨w2, hw2, hJ2⟩ | ⟨z1, z2⟩
      case inr =>
        -- an error: out
        refine T2_ite ⟨fun z => absurd z (EZ_e z1), fun z => absurd z (EZ_e z2)⟩ (fun z _ => absurd z (EZ_e z1)) (fun _ _ => ?_)
        have z1' : EZ t (178000 + e) r1.2 := EZ_mo z1 (by omega) (Nat.le_refl _)
        have z2' : EZ t (178000 + e) r2.2 := EZ_mo z2 (by omega) (Nat.le_refl _)
        have out : ∀ (M1 M2 : Nat → Int32) (υ1 υ2 : MS), M1 5 = x → M2 5 = x → FE σ1 υ1 → FE σ2 υ2 → EZ t (178000 + e) υ1 → EZ t (178000 + e) υ2 → T2 (fun k => x_GV k (e + 1) 12 10 M1 υ1) (fun k => x_GV k (e + 1) 12 10 M2 υ2) (EQ (178000 + (e + 1)) t w XC σ1 σ2) := by
          intro M1 M2 υ1 υ2 h5 h5' q1 q2 y1 y2
          refine T2_suc (fun k => e_tupleBrackets_10 k _ _ _) (fun k => e_tupleBrackets_10 k _ _ _) ?_
          rw [h5, h5', xc]
          refine T2_chk (n_in (by omega) (by omega)) (n_in (by omega) (by omega)) ?_
          rw [n_cl (p := c) (by omega), (tb _ _ q1 q2 9 _ (by omega) (by omega) (by omega)).1, (tb _ _ q1 q2 9 _ (by omega) (by omega) (by omega)).2]
          refine T2_suc (fun k => e_tupleBrackets_1 k _ _ _) (fun k => e_tupleBrackets_1 k _ _ _) ?_
          refine T2_ite (c1 := T 9 c = -1) (c2 := T 9 c = -1) Iff.rfl (fun _ _ => b11Z _ _ _ _ q1 q2 y1 y2) (fun _ _ => ?_)
          exact T2_ite ⟨fun z => absurd z (EZ_e y1), fun z => absurd z (EZ_e y2)⟩ (fun z _ => absurd z (EZ_e y1)) (fun _ _ => b11Z _ _ _ _ q1 q2 y1 y2)
        refine T2_suc (fun k => e_tupleBrackets_2 k _ _ _) (fun k => e_tupleBrackets_2 k _ _ _) ?_
        refine T2_suc (fun k => e_tupleBrackets_3 k _ _ _) (fun k => e_tupleBrackets_3 k _ _ _) ?_
        refine T2_ite (c1 := (0 : Int32) = 0) (c2 := (0 : Int32) = 0) Iff.rfl (fun _ _ => ?_) (fun z _ => absurd rfl z)
        refine T2_suc (fun k => e_tupleBrackets_7 k _ _ _) (fun k => e_tupleBrackets_7 k _ _ _) ?_
        refine T2_ite (show N1 3 ≤ 1000 ↔ N2 3 ≤ 1000 by rw [hN1.2.1, hN2.2.1]) (fun _ _ => ?_) (fun _ _ => ?_)
        · refine T2_suc (fun k => e_tupleBrackets_8 k _ _ _) (fun k => e_tupleBrackets_8 k _ _ _) ?_
          refine T2_suc (fun k => e_tupleBrackets_9 k _ _ _) (fun k => e_tupleBrackets_9 k _ _ _) ?_
          exact out _ _ (mSc r1.2 59 (r1.2.1 59)) (mSc r2.2 59 (r2.2.1 59)) hN1.2.2.2 hN2.2.2.2 (FE_tr k1 (f59 _ _)) (FE_tr k2 (f59 _ _)) (EZ_59 z1') (EZ_59 z2')
        · refine T2_suc (fun k => e_tupleBrackets_9 k _ _ _) (fun k => e_tupleBrackets_9 k _ _ _) ?_
          show T2 (fun k => x_GV k (e + 1) 12 10 _ (mSc r1.2 59 (N1 2))) (fun k => x_GV k (e + 1) 12 10 _ (mSc r2.2 59 (N2 2))) _
          rw [hN1.1, hN2.1]
          exact out _ _ _ _ hN1.2.2.2 hN2.2.2.2 (FE_tr k1 (f59 _ _)) (FE_tr k2 (f59 _ _)) (EZ_dn z1' (Nat.le_refl _) (by omega)) (EZ_dn z2' (Nat.le_refl _) (by omega))
      obtain ⟨q1, q2⟩ := EI_e hJ2
      obtain ⟨p1, p2⟩ := EI_59 hJ2
      rw [q1, q2]
      refine T2_ite Iff.rfl (fun _ _ => ?_) (fun z _ => absurd rfl z)
      refine T2_ob (T2_t (s_pop p1 (by omega) _) (s_pop p2 (by omega) _)) (fun u1 u2 hu => ?_)
      rw [hu.1, hu.2]
      have hD := EI_dn (show t + j ≤ t + j + 1 by omega) hJ2
      have hJ20 := hJ2
      obtain ⟨gA, lA, BA, hA, XA, gB, lB, BB, hB, XB, hX⟩ := hJ2
      have vc : VC gA gB (r1.2.2.2 28) (r2.2.2.2 28) (r1.2.2.2 29 (t + j)) (r2.2.2.2 29 (t + j)) := hX.2.2.1.1 29 (t + j) (Or.inl ⟨rfl, by omega⟩) (by unfold VwR; omega)
      have S1 := hX.1.1
      have S2 := hX.2.1.1
      refine T2_suc (fun k => e_tupleBrackets_3 k _ _ _) (fun k => e_tupleBrackets_3 k _ _ _) ?_
      refine T2_ite (c1 := r1.2.2.2 29 (t + j) = 0) (c2 := r2.2.2.2 29 (t + j) = 0) (VC_0 vc) (fun _ _ => ?_) (fun _ _ => ?_)
      · refine b7 s (o + 1) j w2 _ _ _ _ (by omega) hs1 hs2 hj1 ⟨hN1.1, hN1.2.1, ?_, hN1.2.2.2⟩ ⟨hN2.1, hN2.2.1, ?_, hN2.2.2.2⟩ (FE_tr k1 (f59 _ _)) (FE_tr k2 (f59 _ _)) (by omega) hD
        · show N1 4 + 1 = _
          rw [hN1.2.2.1, n_add1]
        · show N2 4 + 1 = _
          rw [hN2.2.2.1, n_add1]
      have vc0 := vc
      obtain ⟨va, vb, va1, va2, va3, va4, va5, va6, va7⟩ := vc
      have sz := szN_b S1 va2
      refine T2_suc (fun k => e_tupleBrackets_4 k _ _ _) (fun k => e_tupleBrackets_4 k _ _ _) ?_
      refine T2_ite (show 1000 < N1 3 ↔ 1000 < N2 3 by rw [hN1.2.1, hN2.2.1]) (fun z _ => ?_) (fun z _ => ?_)
      · exact b7 s o j w2 _ _ _ _ (by omega) hs1 hs2 hj1 ⟨hN1.1, hN1.2.1, hN1.2.2.1, hN1.2.2.2⟩ ⟨hN2.1, hN2.2.1, hN2.2.2.1, hN2.2.2.2⟩ (FE_tr k1 (f59 _ _)) (FE_tr k2 (f59 _ _)) (by omega) hD
      have hs10 : s ≤ 1000 := by
        by_cases y : s ≤ 1000
        · exact y
        · refine absurd ?_ z
          show (1000 : Int32) < N1 3
          rw [hN1.2.1]
          exact (n_lt (p := 1000) (by decide) (by omega)).mpr (by omega)
      refine T2_ob (T2_t (s_size (σ := mSc r1.2 59 (nI (t + j))) (HS_c S1 rfl rfl rfl) va2 (by exact va1)) (s_size (σ := mSc r2.2 59 (nI (t + j))) (HS_c S2 rfl rfl rfl) va4 (by exact va3))) (fun y1 y2 hy => ?_)
      rw [hy.1, hy.2]
      have esz : szN ((mSc r2.2 59 (nI (t + j))).2.2 28) vb = szN (r1.2.2.2 28) va := (EVb_sz va5).1
      have e3a : N1 3 + (N1 4 + nI (szN (r1.2.2.2 28) va)) = nI (s + (o + szN (r1.2.2.2 28) va)) := by rw [hN1.2.1, hN1.2.2.1, n_add (p := o) (by omega), n_add (p := s) (by omega)]
      have e3b : N2 3 + (N2 4 + nI (szN (r1.2.2.2 28) va)) = nI (s + (o + szN (r1.2.2.2 28) va)) := by rw [hN2.2.1, hN2.2.2.1, n_add (p := o) (by omega), n_add (p := s) (by omega)]
      rw [esz]
      generalize hsz : szN (r1.2.2.2 28) va = z1 at sz e3a e3b
      -- oms, then the value
      have b5 : ∀ (q i : Nat) (M1 M2 : Nat → Int32) (υ1 υ2 : MS), q + i = o → TLo t (s + (o + z1)) o x M1 → TLo t (s + (o + z1)) o x M2 → M1 6 = r1.2.2.2 29 (t + j) → M2 6 = r2.2.2.2 29 (t + j) → M1 7 = nI i → M2 7 = nI i → (s + (o + z1) ≤ 1000 ∨ i = 0) → (∀ a, a ≠ 59 → υ1.1 a = r1.2.1 a) → (∀ a, a ≠ 59 → υ2.1 a = r2.2.1 a) → υ1.2.1 = r1.2.2.1 → υ2.2.1 = r2.2.2.1 → (∀ a, a ≠ 29 → υ1.2.2 a = r1.2.2.2 a) → (∀ a, a ≠ 29 → υ2.2.2 a = r2.2.2.2 a) → υ1.1 59 = nI (t + j + i) → υ2.1 59 = nI (t + j + i) → (∀ a, a < t + j → υ1.2.2 29 a = r1.2.2.2 29 a ∧ υ2.2.2 29 a = r2.2.2.2 29 a) → (∀ a, t + j ≤ a → a < t + j + i → υ1.2.2 29 a = 0 ∧ υ2.2.2 29 a = 0) → T2 (fun k => x_GV k (e + 1) 12 5 M1 υ1) (fun k => x_GV k (e + 1) 12 5 M2 υ2) (EQ (178000 + (e + 1)) t w XC σ1 σ2) := by
        intro q
        induction q with
        | zero =>
          intro i M1 M2 υ1 υ2 hi hM1 hM2 m6 l6 m7 l7 hor s1 s2 lw1 lw2 ro1 ro2 h59 h59' lo zr
          have hio : i = o := by omega
          have b6 : T2 (fun k => x_GV k (e + 1) 12 6 M1 υ1) (fun k => x_GV k (e + 1) 12 6 M2 υ2) (EQ (178000 + (e + 1)) t w XC σ1 σ2) := by
            refine T2_suc (fun k => e_tupleBrackets_6 k _ _ _) (fun k => e_tupleBrackets_6 k _ _ _) ?_
            rw [m6, l6]
            have hib : t + j + i < 185000 := by omega
            refine T2_ob (T2_t (s_push h59 hib _) (s_push h59' hib _)) (fun v1 v2 hv => ?_)
            rw [hv.1, hv.2]
            show T2 (fun k => x_GV k (e + 1) 12 7 (upd M1 4 0) (mPu υ1 (t + j + i) (r1.2.2.2 29 (t + j)))) (fun k => x_GV k (e + 1) 12 7 (upd M2 4 0) (mPu υ2 (t + j + i) (r2.2.2.2 29 (t + j)))) _
            have c1 : ∀ a, a ≠ 59 → (mPu υ1 (t + j + i) (r1.2.2.2 29 (t + j))).1 a = r1.2.1 a := fun a ha => (mPu_s ha).trans (s1 a ha)
            have c2 : ∀ a, a ≠ 59 → (mPu υ2 (t + j + i) (r2.2.2.2 29 (t + j))).1 a = r2.2.1 a := fun a ha => (mPu_s ha).trans (s2 a ha)
            have c3 : ∀ a, a ≠ 29 → (mPu υ1 (t + j + i) (r1.2.2.2 29 (t + j))).2.2 a = r1.2.2.2 a := fun a ha => (mPu_o ha).trans (ro1 a ha)
            have c4 : ∀ a, a ≠ 29 → (mPu υ2 (t + j + i) (r2.2.2.2 29 (t + j))).2.2 a = r2.2.2.2 a := fun a ha => (mPu_o ha).trans (ro2 a ha)
            have hK : EI (t + j + i + 1) w2 XC (mPu υ1 (t + j + i) (r1.2.2.2 29 (t + j))) (mPu υ2 (t + j + i) (r2.2.2.2 29 (t + j))) := by
              refine EI_pile hJ20 c1 c2 lw1 lw2 c3 c4 rfl rfl (fun a ha => ?_)
              rw [mPu_29, mPu_29]
              by_cases ea : a = t + j + i
              · rw [ea, upd_same, upd_same]; exact Or.inl ⟨t + j, by omega, rfl, rfl⟩
              · rw [upd_other ea, upd_other ea]
                by_cases eb : a < t + j
                · exact Or.inl ⟨a, by omega, (lo a eb).1, (lo a eb).2⟩
                · exact Or.inr (zr a (by omega) (by omega))
            rw [show t + j + i + 1 = t + (j + i + 1) by omega] at hK
            exact b7 (s + (o + z1)) 0 (j + i + 1) w2 _ _ _ _ (by omega) (by omega) (by omega) (fun y => by omega) ⟨hM1.1, hM1.2.1, rfl, hM1.2.2.2⟩ ⟨hM2.1, hM2.2.1, rfl, hM2.2.2.2⟩ (FE_tr k1 (FE_pl c1 c3)) (FE_tr k2 (FE_pl c2 c4)) (by omega) hK
          refine T2_suc (fun k => e_tupleBrackets_5 k _ _ _) (fun k => e_tupleBrackets_5 k _ _ _) ?_
          rw [hM1.2.2.1, hM2.2.2.1, m7, l7]
          exact T2_ite Iff.rfl (fun _ _ => b6) (fun y _ => absurd ((n_le (by omega) (by omega)).mpr (by omega)) y)
        | succ q ihq =>
          intro i M1 M2 υ1 υ2 hi hM1 hM2 m6 l6 m7 l7 hor s1 s2 lw1 lw2 ro1 ro2 h59 h59' lo zr
          refine T2_suc (fun k => e_tupleBrackets_5 k _ _ _) (fun k => e_tupleBrackets_5 k _ _ _) ?_
          rw [hM1.2.2.1, hM2.2.2.1, m7, l7, hM1.2.1, hM2.2.1]
          refine T2_ite Iff.rfl (fun y _ => absurd ((n_le (by omega) (by omega)).mp y) (by omega)) (fun _ _ => ?_)
          refine T2_ite Iff.rfl (fun y _ => ?_) (fun y _ => ?_)
          · have y := (n_lt (p := 1000) (by decide) (by omega)).mp y
            have hi0 : i = 0 := by omega
            -- too large: the value is pushed, then all goes
            refine T2_suc (fun k => e_tupleBrackets_6 k _ _ _) (fun k => e_tupleBrackets_6 k _ _ _) ?_
            rw [m6, l6]
            have hib : t + j + i < 185000 := by omega
            refine T2_ob (T2_t (s_push h59 hib _) (s_push h59' hib _)) (fun v1 v2 hv => ?_)
            rw [hv.1, hv.2]
            show T2 (fun k => x_GV k (e + 1) 12 7 (upd M1 4 0) (mPu υ1 (t + j + i) (r1.2.2.2 29 (t + j)))) (fun k => x_GV k (e + 1) 12 7 (upd M2 4 0) (mPu υ2 (t + j + i) (r2.2.2.2 29 (t + j)))) _
            have c1 : ∀ a, a ≠ 59 → (mPu υ1 (t + j + i) (r1.2.2.2 29 (t + j))).1 a = r1.2.1 a := fun a ha => (mPu_s ha).trans (s1 a ha)
            have c2 : ∀ a, a ≠ 59 → (mPu υ2 (t + j + i) (r2.2.2.2 29 (t + j))).1 a = r2.2.1 a := fun a ha => (mPu_s ha).trans (s2 a ha)
            have c3 : ∀ a, a ≠ 29 → (mPu υ1 (t + j + i) (r1.2.2.2 29 (t + j))).2.2 a = r1.2.2.2 a := fun a ha => (mPu_o ha).trans (ro1 a ha)
            have c4 : ∀ a, a ≠ 29 → (mPu υ2 (t + j + i) (r2.2.2.2 29 (t + j))).2.2 a = r2.2.2.2 a := fun a ha => (mPu_o ha).trans (ro2 a ha)
            have hK : EI (t + j + i + 1) w2 XC (mPu υ1 (t + j + i) (r1.2.2.2 29 (t + j))) (mPu υ2 (t + j + i) (r2.2.2.2 29 (t + j))) := by
              refine EI_pile hJ20 c1 c2 lw1 lw2 c3 c4 rfl rfl (fun a ha => ?_)
              rw [mPu_29, mPu_29]
              by_cases ea : a = t + j + i
              · rw [ea, upd_same, upd_same]; exact Or.inl ⟨t + j, by omega, rfl, rfl⟩
              · rw [upd_other ea, upd_other ea]
                exact Or.inl ⟨a, by omega, (lo a (by omega)).1, (lo a (by omega)).2⟩
            rw [show t + j + i + 1 = t + (j + i + 1) by omega] at hK
            exact b7 (s + (o + z1)) 0 (j + i + 1) w2 _ _ _ _ (by omega) (by omega) (by omega) (fun y => by omega) ⟨hM1.1, hM1.2.1, rfl, hM1.2.2.2⟩ ⟨hM2.1, hM2.2.1, rfl, hM2.2.2.2⟩ (FE_tr k1 (FE_pl c1 c3)) (FE_tr k2 (FE_pl c2 c4)) (by omega) hK
          · have y : s + (o + z1) ≤ 1000 := by
              by_cases y' : s + (o + z1) ≤ 1000
              · exact y'
              · exact absurd ((n_lt (p := 1000) (by decide) (by omega)).mpr (by omega)) y
            have hib : t + j + i < 185000 := by omega
            refine T2_ob (T2_t (s_push h59 hib _) (s_push h59' hib _)) (fun v1 v2 hv => ?_)
            rw [hv.1, hv.2]
            show T2 (fun k => x_GV k (e + 1) 12 5 (upd M1 7 (nI i + 1)) (mPu υ1 (t + j + i) 0)) (fun k => x_GV k (e + 1) 12 5 (upd M2 7 (nI i + 1)) (mPu υ2 (t + j + i) 0)) _
            refine ihq (i + 1) _ _ _ _ (by omega) ⟨hM1.1, hM1.2.1, hM1.2.2.1, hM1.2.2.2⟩ ⟨hM2.1, hM2.2.1, hM2.2.2.1, hM2.2.2.2⟩ m6 l6 (n_add1 i) (n_add1 i) (Or.inl y) (fun a ha => (mPu_s ha).trans (s1 a ha)) (fun a ha => (mPu_s ha).trans (s2 a ha)) lw1 lw2 (fun a ha => (mPu_o ha).trans (ro1 a ha)) (fun a ha => (mPu_o ha).trans (ro2 a ha)) rfl rfl (fun a ha => ?_) (fun a h1 h2 => ?_)
            · rw [mPu_29, mPu_29, upd_other (by omega), upd_other (by omega)]; exact lo a ha
            · rw [mPu_29, mPu_29]
              by_cases ea : a = t + j + i
              · rw [ea, upd_same, upd_same]; exact ⟨rfl, rfl⟩
              · rw [upd_other ea, upd_other ea]; exact zr a h1 (by omega)
      refine b5 o 0 _ _ (mSc r1.2 59 (nI (t + j))) (mSc r2.2 59 (nI (t + j))) (by omega) ⟨hN1.1, ?_, hN1.2.2.1, hN1.2.2.2⟩ ⟨hN2.1, ?_, hN2.2.2.1, hN2.2.2.2⟩ rfl rfl rfl rfl (Or.inr rfl) (fun a ha => upd_other ha) (fun a ha => upd_other ha) rfl rfl (fun _ _ => rfl) (fun _ _ => rfl) rfl rfl (fun _ _ => ⟨rfl, rfl⟩) (fun a h1 h2 => by omega)
      · show N1 3 + (N1 4 + nI (szN ((mSc r1.2 59 (nI (t + j))).2.2 28) va)) = _
        rw [show szN ((mSc r1.2 59 (nI (t + j))).2.2 28) va = z1 from hsz]; exact e3a
      · exact e3b
  refine T2_suc (fun k => e_tupleBrackets_0 k _ _ _) (fun k => e_tupleBrackets_0 k _ _ _) ?_
  obtain ⟨p1, p2⟩ := EI_59 hI
  rw [d1, d2, p1, p2]
  refine T2_chk (n_in (by omega) (by omega)) (n_in (by omega) (by omega)) ?_
  rw [n_cl (p := n) (by omega), hS1.1 6 _ (by omega) (by omega) (by omega), hS2.1 6 _ (by omega) (by omega) (by omega)]
  exact b1 f0 m0 1 0 0 w (T 6 n) _ _ σ1 σ2 hW (by omega) (by omega) (by omega) (fun _ => by omega) (fun _ => rfl) ⟨rfl, rfl, rfl, rfl⟩ ⟨rfl, rfl, rfl, rfl⟩ FE_rf FE_rf (Nat.le_refl _) hI
end ETU
end JnS207
section JnS208
/-! Evaluation on both sides (reference): variables are bound, cleared. -/
section EBI
variable {T : Nat → Nat → Int32} {FN : Nat → Nat → Prop} {O r K d t u w XC : Nat} {lc : Nat → Prop} {σ1 σ2 τ1 τ2 : MS}
theorem RtP_b {σ τ : MS} (h63 : τ.1 63 = σ.1 63) (h72 : τ.1 72 = σ.1 72) (h1 : τ.2.2 30 1 = σ.2.2 30 1) (h3 : τ.2.2 30 3 = σ.2.2 30 3) (h31 : τ.2.2 31 = σ.2.2 31) (a i : Nat) : RtP t τ a i ↔ RtP t σ a i := by
  unfold RtP StI
  rw [h63, h72, h31, show (0 + 1) = 1 from rfl, show (0 + 3) = 3 from rfl, h1, h3]
theorem RtQ_b {σ τ : MS} (h63 : τ.1 63 = σ.1 63) (h72 : τ.1 72 = σ.1 72) (h1 : τ.2.2 30 1 = σ.2.2 30 1) (h3 : τ.2.2 30 3 = σ.2.2 30 3) (h31 : τ.2.2 31 = σ.2.2 31) (hQ : RtQ σ) : RtQ τ := by
  obtain ⟨P, e, q1, q2, q3, q4, ⟨c, n, c1, c2, n1, n2⟩, q6⟩ := hQ
  refine ⟨P, e, h63.trans q1, q2, h72.trans q3, q4, ⟨c, n, ?_, c2, ?_, n2⟩, by rw [h31]; exact q6⟩
  · show τ.2.2 30 1 = _
    rw [h1]; exact c1
  · show τ.2.2 30 3 = _
    rw [h3]; exact n1
/-- a place for a value, of globals, locals or frames -/
def PlV (a i : Nat) : Prop := (a = 30 ∧ 4 ≤ i ∧ i < 3214 ∧ ¬ (64 ≤ i ∧ i < 214)) ∨ (a = 33 ∧ i < 1380)
theorem PlV_n {a i : Nat} (h : PlV a i) : a ≠ 28 ∧ a ≠ 29 ∧ a ≠ 31 ∧ a ≠ 34 ∧ a ≠ 35 ∧ a ≠ 2 ∧ (a = 30 → i ≠ 1 ∧ i ≠ 3) := by unfold PlV at h; omega
theorem PlV_z {a i : Nat} (h : PlV a i) : Zn a i ∧ (a = 30 ∨ a = 33) := by unfold PlV at h; unfold Zn; omega
theorem FE_bd {N : Nat → Nat → Prop} {σ : MS} {a i : Nat} {x : Int32} (h : PlV a i) (hn : N a i) : FEn N σ (mAr σ a i x) := FEn_ar (PlV_z h).1 (PlV_z h).2 hn
theorem FE_b0 {σ : MS} {a i : Nat} (h : PlV a i) (hn : NU σ a i) : FE σ (mAr σ a i 0) := FE_ar0 (PlV_z h).1 (PlV_z h).2 hn
/-- the place of a name -/
def NPl (T : Nat → Nat → Int32) (σ : MS) (n a i : Nat) : Prop := ∃ s, T 6 n = nI s ∧ s < 60 ∧ ((T 5 n = 0 ∧ a = 30 ∧ i = 4 + s) ∨ (¬ T 5 n = 0 ∧ σ.1 69 = 0 ∧ a = 30 ∧ ∃ c, σ.2.2 30 1 = nI c ∧ 1 ≤ c ∧ c ≤ 50 ∧ i = 214 + 60 * (c - 1) + s) ∨ (¬ T 5 n = 0 ∧ σ.1 69 = 1 ∧ a = 33 ∧ ∃ fu, σ.1 67 = nI fu ∧ fu ≤ 20 ∧ i = fb fu + s))
theorem NPl_c {T : Nat → Nat → Int32} {σ τ : MS} {n a i : Nat} (h69 : τ.1 69 = σ.1 69) (h67 : τ.1 67 = σ.1 67) (h1 : τ.2.2 30 1 = σ.2.2 30 1) : NPl T τ n a i ↔ NPl T σ n a i := by unfold NPl; rw [h69, h67, h1]
theorem NPl_1 {T : Nat → Nat → Int32} {σ : MS} {n s a i fu a' i' : Nat} (x6 : T 6 n = nI s) (hs : s < 60) (h67 : σ.1 67 = nI fu) (hfu : fu ≤ 20) (h : (T 5 n = 0 ∧ a = 30 ∧ i = 4 + s) ∨ (¬ T 5 n = 0 ∧ σ.1 69 = 0 ∧ a = 30 ∧ ∃ c, σ.2.2 30 1 = nI c ∧ 1 ≤ c ∧ c ≤ 50 ∧ i = 214 + 60 * (c - 1) + s) ∨ (¬ T 5 n = 0 ∧ σ.1 69 = 1 ∧ a = 33 ∧ i = fb fu + s)) : NPl T σ n a' i' ↔ a' = a ∧ i' = i := by
  constructor
  · rintro ⟨s', y6, ys, y⟩
    have es : s' = s := (n_eq (by omega) (by omega)).mp (y6.symm.trans x6)
    subst es
    rcases h with ⟨z1, z2, z3⟩ | ⟨z1, z2, z3, c, c1, c2, c3, c4⟩ | ⟨z1, z2, z3, z4⟩
    · rcases y with ⟨_, y2, y3⟩ | ⟨y1, _⟩ | ⟨y1, _⟩
      · omega
      · exact absurd z1 y1
      · exact absurd z1 y1
    · rcases y with ⟨y1, _⟩ | ⟨_, _, y3, d, d1, d2, d3, d4⟩ | ⟨_, y2, _⟩
      · exact absurd y1 z1
      · have ed : d = c := (n_eq (by omega) (by omega)).mp (d1.symm.trans c1)
        omega
      · rw [z2] at y2; exact absurd y2 (by decide)
    · rcases y with ⟨y1, _⟩ | ⟨_, y2, _⟩ | ⟨_, _, y3, d, d1, d2, d3⟩
      · exact absurd y1 z1
      · rw [z2] at y2; exact absurd y2 (by decide)
      · have ed : d = fu := (n_eq (by omega) (by omega)).mp (d1.symm.trans h67)
        rw [ed] at d3
        omega
  · rintro ⟨rfl, rfl⟩
    exact ⟨s, x6, hs, h.imp id (fun z => z.imp id (fun y => ⟨y.1, y.2.1, y.2.2.1, fu, h67, hfu, y.2.2.2⟩))⟩
/-- one side: a value that could be reached is bound -/
theorem MI_bd {g : Nat → Prop} {l : List Nat} {B h X a i : Nat} {σ : MS} {x : Int32} (hM : MI t X g l B h σ) (hp : PlV a i) (hx : ∃ m, x = nI m ∧ (m < 3 ∨ Rch (σ.2.2 28) (RoS t σ) m)) : MI t X g l B h (mAr σ a i x) ∧ ∀ b j, RtP t (mAr σ a i x) b j ↔ RtP t σ b j := by
  obtain ⟨n1, n2, n3, n4, n5, n6, n7⟩ := PlV_n hp
  have r1 : (mAr σ a i x).2.2 30 1 = σ.2.2 30 1 := by
    by_cases e : a = 30
    · subst e; rw [mAr_s, upd_other (fun c => (n7 rfl).1 c.symm)]
    · rw [mAr_o (fun c => e c.symm)]
  have r3 : (mAr σ a i x).2.2 30 3 = σ.2.2 30 3 := by
    by_cases e : a = 30
    · subst e; rw [mAr_s, upd_other (fun c => (n7 rfl).2 c.symm)]
    · rw [mAr_o (fun c => e c.symm)]
  have r31 : (mAr σ a i x).2.2 31 = σ.2.2 31 := mAr_o (fun c => n3 c.symm)
  have rt : ∀ b j, RtP t (mAr σ a i x) b j ↔ RtP t σ b j := RtP_b rfl rfl r1 r3 r31
  refine ⟨MI_re hM rfl rfl (mAr_o (fun c => n1 c.symm)) (RtQ_b (σ := σ) rfl rfl r1 r3 r31 hM.2.1) (fun b j z => ?_), rt⟩
  by_cases e : b = a ∧ j = i
  · obtain ⟨e1, e2⟩ := e
    subst e1
    subst e2
    rw [mAr_s, upd_same]; exact hx
  · have : (mAr σ a i x).2.2 b j = σ.2.2 b j := by
      by_cases eb : b = a
      · subst eb; rw [mAr_s, upd_other (fun c => e ⟨rfl, c⟩)]
      · rw [mAr_o eb]
    rw [this]; exact MI_rt hM ((rt b j).mp z)
theorem InA_bd {σ : MS} {a i : Nat} {x : Int32} (hp : PlV a i) (b j : Nat) : InA (mAr σ a i x) b j ↔ InA σ b j := InA_c (σ := σ) (ρ := mAr σ a i x) rfl rfl rfl rfl rfl rfl (fun u _ => by rw [mAr_o (by unfold PlV at hp; omega)]) (fun q hq => by
    by_cases e : 30 = a
    · subst e; rw [mAr_s, upd_other (by unfold PlV at hp; omega)]
    · rw [mAr_o e]) (fun p _ q hq => by rw [mAr_o (by unfold PlV at hp; omega)]) b j
theorem EI_bd {a i : Nat} {x y : Int32} (hE : EI t w XC σ1 σ2) (hp : PlV a i) (hx : ∀ (g1 : Nat → Prop) (l1 : List Nat) (B1 h1 X1 : Nat) (g2 : Nat → Prop) (l2 : List Nat) (B2 h2 X2 : Nat), EIx t w XC σ1 σ2 g1 l1 B1 h1 X1 g2 l2 B2 h2 X2 → VC g1 g2 (σ1.2.2 28) (σ2.2.2 28) x y ∧ (∃ m, x = nI m ∧ (m < 3 ∨ Rch (σ1.2.2 28) (RoS t σ1) m)) ∧ ∃ m, y = nI m ∧ (m < 3 ∨ Rch (σ2.2.2 28) (RoS t σ2) m)) : EI t w XC (mAr σ1 a i x) (mAr σ2 a i y) := by
  obtain ⟨g1, l1, B1, h1, X1, g2, l2, B2, h2, X2, hX⟩ := hE
  obtain ⟨vc, rx, ry⟩ := hx g1 l1 B1 h1 X1 g2 l2 B2 h2 X2 hX
  obtain ⟨m1, m2, hR, i1, i2, t1, e1, e2, w1, hw, x1, x2, ⟨ty1, ty2⟩, c⟩ := hX
  obtain ⟨n1, n2, n3, n4, n5, n6, n7⟩ := PlV_n hp
  obtain ⟨k1, rt1⟩ := MI_bd m1 hp rx
  obtain ⟨k2, rt2⟩ := MI_bd m2 hp ry
  have o1 : ∀ b, b ≠ a → (mAr σ1 a i x).2.2 b = σ1.2.2 b := fun b hb => mAr_o hb
  have o2 : ∀ b, b ≠ a → (mAr σ2 a i y).2.2 b = σ2.2.2 b := fun b hb => mAr_o hb
  refine ⟨g1, l1, B1, h1, X1, g2, l2, B2, h2, X2, k1, k2, ⟨fun b j z hv => ?_, fun b j hb hz hn => ?_, hR.2.2.1, hR.2.2.2⟩, IT_c (σ := σ1) rfl (o1 34 (fun c => n4 c.symm)) (o1 35 (fun c => n5 c.symm)) (o1 28 (fun c => n1 c.symm)) i1, IT_c (σ := σ2) rfl (o2 34 (fun c => n4 c.symm)) (o2 35 (fun c => n5 c.symm)) (o2 28 (fun c => n1 c.symm)) i2, t1, e1, e2, w1, hw, x1, x2, ⟨by rw [o1 2 (fun c => n6 c.symm)]; exact ty1, by rw [o1 2 (fun c => n6 c.symm), o2 2 (fun c => n6 c.symm)]; exact ty2⟩, c⟩
  · rw [o1 28 (fun c => n1 c.symm), o2 28 (fun c => n1 c.symm)]
    have z := (rt1 b j).mp z
    by_cases e : b = a ∧ j = i
    · obtain ⟨eb, ej⟩ := e
      subst eb
      subst ej
      rw [mAr_s, mAr_s, upd_same, upd_same]; exact vc
    · have q1 : (mAr σ1 a i x).2.2 b j = σ1.2.2 b j := by
        by_cases eb : b = a
        · subst eb; rw [mAr_s, upd_other (fun c => e ⟨rfl, c⟩)]
        · rw [mAr_o eb]
      have q2 : (mAr σ2 a i y).2.2 b j = σ2.2.2 b j := by
        by_cases eb : b = a
        · subst eb; rw [mAr_s, upd_other (fun c => e ⟨rfl, c⟩)]
        · rw [mAr_o eb]
      rw [q1, q2]; exact hR.1 b j z hv
  · have f1 := (FE_bd (N := fun _ _ => True) (σ := σ1) (x := x) hp trivial).2.1 b j hb hz
    have f2 := (FE_bd (N := fun _ _ => True) (σ := σ2) (x := y) hp trivial).2.1 b j hb hz
    have e : ¬ (b = a ∧ j = i) := by
      intro q
      obtain ⟨eb, ej⟩ := q
      subst eb
      subst ej
      unfold PlV at hp
      unfold Zn at hz
      omega
    have q1 : (mAr σ1 a i x).2.2 b j = σ1.2.2 b j := by
      by_cases eb : b = a
      · subst eb; rw [mAr_s, upd_other (fun c => e ⟨rfl, c⟩)]
      · rw [mAr_o eb]
    have q2 : (mAr σ2 a i y).2.2 b j = σ2.2.2 b j := by
      by_cases eb : b = a
      · subst eb; rw [mAr_s, upd_other (fun c => e ⟨rfl, c⟩)]
      · rw [mAr_o eb]
    rw [q1, q2]; exact hR.2.1 b j hb hz (fun z => hn ((InA_bd hp b j).mpr z))
/-- om is bound -/
theorem EI_bd0 {a i : Nat} (hE : EI t w XC σ1 σ2) (hp : PlV a i) : EI t w XC (mAr σ1 a i 0) (mAr σ2 a i 0) := EI_bd hE hp (fun g1 l1 B1 h1 X1 g2 l2 B2 h2 X2 _ => ⟨VC_00, ⟨0, rfl, Or.inl (by decide)⟩, ⟨0, rfl, Or.inl (by decide)⟩⟩)
/-- with an error too -/
theorem EZ_bd0 {a b c i : Nat} {σ : MS} (h : EZ a b σ) (hp : PlV c i) : EZ a b (mAr σ c i 0) := by
  obtain ⟨g, l, B, h', t, m, c1, c2⟩ := h
  exact ⟨g, l, B, h', t, (MI_bd m hp ⟨0, rfl, Or.inl (by decide)⟩).1, c1, c2⟩
/-- where a name is bound: one place, as the state has it -/
theorem s_bindOne {σ : MS} {n s fu dp e : Nat} (hS : STb T FN σ) (hC : Cx lc fu dp e σ) (hn : (1 ≤ n ∧ n < LNo T % 70001)) (x6 : T 6 n = nI s) (hs : s < 60) (x5 : T 5 n = 0 ∨ lc 0) : ∃ a i, PlV a i ∧ ((T 5 n = 0 ∧ a = 30 ∧ i = 4 + s) ∨ (¬ T 5 n = 0 ∧ σ.1 69 = 0 ∧ a = 30 ∧ ∃ c, σ.2.2 30 1 = nI c ∧ 1 ≤ c ∧ c ≤ 50 ∧ i = 214 + 60 * (c - 1) + s) ∨ (¬ T 5 n = 0 ∧ σ.1 69 = 1 ∧ a = 33 ∧ i = fb fu + s)) ∧ ∀ L : Nat → Int32, L 1 = nI n → Tm (fun k => x_bindOne k 0 L σ) (fun r => r = (0, mAr σ a i (L 2))) := by
  obtain ⟨c67, cfu, _, _, _, ⟨c, c1, c2, c3⟩, c4⟩ := hC
  have hfb := fb_le cfu
  have hin : ¬ (nI n < 0 ∨ 70000 ≤ (nI n).toNatClampNeg) := n_in (by omega) (by omega)
  have b3 : ∀ (τ : MS) (N : Nat → Int32), Tm (fun k => x_bindOne k 3 N τ) (fun r => r = (0, τ)) := fun τ N => by
    refine Tm_suc (fun k => by rw [x_bindOne]) ?_
    exact Tm_some rfl
  by_cases z5 : T 5 n = 0
  · refine ⟨30, 4 + s, Or.inl ⟨rfl, by omega, by omega, by omega⟩, Or.inl ⟨z5, rfl, rfl⟩, fun L d1 => ?_⟩
    refine Tm_suc (fun k => by rw [x_bindOne]) ?_
    rw [d1]
    refine Tm_chk hin ?_
    rw [n_cl (p := n) (by omega), hS.1 5 _ (by omega) (by omega) (by omega), hS.1 6 _ (by omega) (by omega) (by omega), x6, show (4 : Int32) + nI s = nI (4 + s) from n_add (p := 4) (by omega)]
    refine Tm_ite (fun _ => ?_) (fun z => absurd z5 z)
    refine Tm_chk (n_in3 (by omega) (by omega)) ?_
    refine Tm_chk (n_in (by omega) (by omega)) ?_
    rw [n_cl (p := 4 + s) (by omega)]
    exact b3 (mAr σ 30 (4 + s) (L 2)) L
  have hlc : lc 0 := x5.resolve_left z5
  rcases c4 with z69 | ⟨z69, z68⟩
  · have hc1 : 1 ≤ c := by
      rcases c3.1 hlc with y | y
      · rw [y] at z69; exact absurd z69 (by decide)
      · exact y.2
    refine ⟨30, 214 + 60 * (c - 1) + s, Or.inl ⟨rfl, by omega, by omega, by omega⟩, Or.inr (Or.inl ⟨z5, z69, rfl, c, c1, hc1, c2, rfl⟩), fun L d1 => ?_⟩
    refine Tm_suc (fun k => by rw [x_bindOne]) ?_
    rw [d1]
    refine Tm_chk hin ?_
    rw [n_cl (p := n) (by omega), hS.1 5 _ (by omega) (by omega) (by omega)]
    refine Tm_ite (fun z => absurd z z5) (fun _ => ?_)
    refine Tm_suc (fun k => by rw [x_bindOne]) ?_
    rw [z69]
    refine Tm_ite (fun _ => ?_) (fun z => absurd rfl z)
    refine Tm_suc (fun k => by rw [x_bindOne]) ?_
    rw [d1, show (1 : Int32).toNatClampNeg = 1 from by decide, c1]
    refine Tm_chk (by decide) ?_
    refine Tm_chk hin ?_
    rw [n_cl (p := n) (by omega), hS.1 6 _ (by omega) (by omega) (by omega), x6, show nI c - 1 = nI (c - 1) from n_sub (p := c) (q := 1) (by omega) hc1, show (60 : Int32) * nI (c - 1) = nI (60 * (c - 1)) from n_mulN 60 (c - 1), show (214 : Int32) + nI (60 * (c - 1)) = nI (214 + 60 * (c - 1)) from n_add (p := 214) (by omega), n_add (p := 214 + 60 * (c - 1)) (by omega)]
    refine Tm_chk (n_in (by omega) (by omega)) ?_
    rw [n_cl (p := 214 + 60 * (c - 1) + s) (by omega)]
    exact b3 (mAr σ 30 (214 + 60 * (c - 1) + s) (L 2)) L
  · refine ⟨33, fb fu + s, Or.inr ⟨rfl, by omega⟩, Or.inr (Or.inr ⟨z5, z69, rfl, rfl⟩), fun L d1 => ?_⟩
    refine Tm_suc (fun k => by rw [x_bindOne]) ?_
    rw [d1]
    refine Tm_chk hin ?_
    rw [n_cl (p := n) (by omega), hS.1 5 _ (by omega) (by omega) (by omega)]
    refine Tm_ite (fun z => absurd z z5) (fun _ => ?_)
    refine Tm_suc (fun k => by rw [x_bindOne]) ?_
    rw [z69, d1, z68]
    refine Tm_ite (fun z => absurd z (by decide)) (fun _ => ?_)
    refine Tm_chk hin ?_
    rw [n_cl (p := n) (by omega), hS.1 6 _ (by omega) (by omega) (by omega), x6, n_add (p := fb fu) (by omega)]
    refine Tm_chk (n_in (by omega) (by omega)) ?_
    rw [n_cl (p := fb fu + s) (by omega)]
    exact b3 (mAr σ 33 (fb fu + s) (L 2)) L
/-- on both sides: the same place -/
theorem E_bnd {n s fu dp e : Nat} (hS1 : STb T FN σ1) (hE : EI t w XC σ1 σ2) (hC : Cx lc fu dp e σ1) (hn : (1 ≤ n ∧ n < LNo T % 70001)) (x6 : T 6 n = nI s) (hs : s < 60) (x5 : T 5 n = 0 ∨ lc 0) : ∃ a i, PlV a i ∧ (∀ a2 i2, NPl T σ1 n a2 i2 ↔ a2 = a ∧ i2 = i) ∧ ∀ L1 L2 : Nat → Int32, L1 1 = nI n → L2 1 = nI n → T2 (fun k => x_bindOne k 0 L1 σ1) (fun k => x_bindOne k 0 L2 σ2) (fun r1 r2 => r1 = (0, mAr σ1 a i (L1 2)) ∧ r2 = (0, mAr σ2 a i (L2 2))) := by
  have hS2 := EI_ST hE hS1
  obtain ⟨g1, l1, B1, h1, X1, g2, l2, B2, h2, X2, hX⟩ := hE
  have hR := hX.2.2.1
  have hC2 := Cx_ra hR hC
  have a69 : σ2.1 69 = σ1.1 69 := (hR.2.2.1 69 (by unfold AlS; omega)).symm
  have b1 : σ2.2.2 30 1 = σ1.2.2 30 1 := (hR.2.1 30 1 (by unfold AlR; omega) (by unfold Zn; omega) (InA_4 (by omega))).symm
  obtain ⟨a, i, p1, p2, p3⟩ := s_bindOne hS1 hC hn x6 hs x5
  obtain ⟨a', i', q1, q2, q3⟩ := s_bindOne hS2 hC2 hn x6 hs x5
  have same : a' = a ∧ i' = i := by
    rcases p2 with ⟨y1, y2, y3⟩ | ⟨y1, y2, y3, c, c1, c2, c3, c4⟩ | ⟨y1, y2, y3, y4⟩
    · rcases q2 with ⟨z1, z2, z3⟩ | ⟨z1, _⟩ | ⟨z1, _⟩
      · omega
      · exact absurd y1 z1
      · exact absurd y1 z1
    · rcases q2 with ⟨z1, _⟩ | ⟨z1, z2, z3, c', d1, d2, d3, d4⟩ | ⟨z1, z2, _⟩
      · exact absurd z1 y1
      · have : c' = c := (n_eq (by omega) (by omega)).mp (d1.symm.trans (b1.trans c1))
        subst this
        omega
      · rw [a69, y2] at z2; exact absurd z2 (by decide)
    · rcases q2 with ⟨z1, _⟩ | ⟨z1, z2, _⟩ | ⟨z1, z2, z3, z4⟩
      · exact absurd z1 y1
      · rw [a69, y2] at z2; exact absurd z2 (by decide)
      · omega
  obtain ⟨s1, s2⟩ := same
  subst s1
  subst s2
  exact ⟨a', i', p1, fun a2 i2 => NPl_1 x6 hs hC.1 hC.2.1 p2, fun L1 L2 d1 d2 => T2_t (p3 L1 d1) (q3 L2 d2)⟩
/-- a name that doesn't count -/
theorem NPl_NU {σ : MS} {n s fu dp e a i : Nat} (hC : Cx lc fu dp e σ) (x6 : T 6 n = nI s) (hs : s < 60) (hl : lc (if T 5 n = 0 then 1 + s else 61 + s)) (h : NPl T σ n a i) : NU σ a i := by
  obtain ⟨_, _, _, _, _, ⟨c, c1, c2, _, c4⟩, _⟩ := hC
  obtain ⟨s', y6, ys, y⟩ := h
  have es : s' = s := (n_eq (by omega) (by omega)).mp (y6.symm.trans x6)
  subst es
  rcases y with ⟨z5, rfl, rfl⟩ | ⟨z5, z69, rfl, c', d1, d2, d3, rfl⟩ | ⟨_, _, z, _⟩
  · rw [if_pos z5] at hl
    exact Or.inr ⟨rfl, Or.inl ⟨by omega, by omega, by rw [Nat.add_sub_cancel_left]; exact c4.1 s' hs hl⟩⟩
  · rw [if_neg z5] at hl
    have ec : c' = c := (n_eq (by omega) (by omega)).mp (d1.symm.trans c1)
    subst ec
    refine Or.inr ⟨rfl, Or.inr ⟨by omega, by omega, ?_⟩⟩
    rw [show (214 + 60 * (c' - 1) + s' - 214) / 60 = c' - 1 by omega, show (214 + 60 * (c' - 1) + s' - 214) % 60 = s' by omega]
    exact c4.2 s' hs hl z69 d2
  · exact Or.inl z
end EBI
end JnS208
section JnS209
/-! Evaluation on both sides (reference): calls of functions. -/
def Fc (j : Nat) : Prop := j = 67 ∨ j = 68 ∨ j = 69 ∨ j = 97
/-- a frame's places from i on -/
def Fr (lb i a j : Nat) : Prop := a = 33 ∧ lb + i ≤ j ∧ j < lb + 60
/-- what stays, but for the numbers of a function's call -/
def FRn (N : Nat → Nat → Prop) (σ ρ : MS) : Prop := (∀ j, AlS j → j ≠ 57 → j ≠ 59 → j ≠ 95 → ¬ Fc j → ρ.1 j = σ.1 j) ∧ (∀ a i, AlR a → ¬ Zn a i → ¬ ((a = 35 ∨ a = 50) ∧ (σ.1 72).toNatClampNeg ≤ i) → ρ.2.2 a i = σ.2.2 a i) ∧ ρ.2.2 2 = σ.2.2 2 ∧ KPn N σ ρ
section ECA
variable {T : Nat → Nat → Int32} {FN : Nat → Nat → Prop} {O r K d t u w XC : Nat} {lc : Nat → Prop} {σ σ1 σ2 τ τ1 τ2 ρ : MS} {N : Nat → Nat → Prop}
theorem FR_fen (h : FEn N σ ρ) : FRn N σ ρ := ⟨fun j a b c d _ => h.1 j a b c d, h.2.1, h.2.2.1, h.2.2.2⟩
theorem FR_fe (h : FE σ ρ) : FRn N σ ρ := FR_fen (FE_n h)
theorem FR_b (a : FRn N σ τ) : FB0 σ τ := ⟨a.1 63 (by unfold AlS; omega) (by decide) (by decide) (by decide) (by unfold Fc; omega), kC_c (fun i => a.2.1 20 i (by unfold AlR; omega) (by unfold Zn; omega) (by omega)) (fun i _ => a.2.1 21 i (by unfold AlR; omega) (by unfold Zn; omega) (by omega)) (a.1 30 (by unfold AlS; omega) (by decide) (by decide) (by decide) (by unfold Fc; omega)), fun i h => a.2.1 30 i (by unfold AlR; omega) h (by omega), fun i h => a.2.1 31 i (by unfold AlR; omega) h (by omega)⟩
theorem FR_tr (a : FRn N σ τ) (b : FRn N τ ρ) : FRn N σ ρ := by
  have e : τ.1 72 = σ.1 72 := a.1 72 (by unfold AlS; omega) (by decide) (by decide) (by decide) (by unfold Fc; omega)
  refine ⟨fun j h1 h2 h3 h4 h5 => (b.1 j h1 h2 h3 h4 h5).trans (a.1 j h1 h2 h3 h4 h5), fun x i h1 h2 h3 => ?_, b.2.2.1.trans a.2.2.1, KPn_tr (FR_b a) a.2.2.2 b.2.2.2⟩
  rw [b.2.1 x i h1 h2 (by rw [e]; exact h3), a.2.1 x i h1 h2 h3]
theorem FR_sc {j : Nat} {x : Int32} (hj : Fc j) : FRn N σ (mSc σ j x) := ⟨fun i _ _ _ _ h => upd_other (fun e => h (e ▸ hj)), fun _ _ _ _ _ => rfl, rfl, KPn_same rfl (fun _ _ => rfl)⟩
theorem FE_fr (h : FRn N σ ρ) (hN : ∀ a i, ¬ N a i) (h67 : ρ.1 67 = σ.1 67) (h68 : ρ.1 68 = σ.1 68) (h69 : ρ.1 69 = σ.1 69) (h97 : ρ.1 97 = σ.1 97) : FE σ ρ := by
  refine ⟨fun j a b c d => ?_, h.2.1, h.2.2.1, KPn_mo (fun a i z => hN a i z) h.2.2.2⟩
  by_cases e : Fc j
  · rcases e with e | e | e | e
    · rw [e]; exact h67
    · rw [e]; exact h68
    · rw [e]; exact h69
    · rw [e]; exact h97
  · exact h.1 j a b c d e
/-- one place of a frame is emptied -/
theorem FR_z {lb i : Nat} (h : FRn (Fr lb i) σ ρ) : FRn (Fr lb (i + 1)) σ (mAr ρ 33 (lb + i) 0) := by
  obtain ⟨h1, h2, h3, h4⟩ := h
  refine ⟨h1, fun a j ha hz hx => ?_, (mAr_o (by decide)).trans h3, fun a j hr hn => ?_⟩
  · rw [mAr_o (fun e => hz (by rw [e]; exact Or.inl rfl))]; exact h2 a j ha hz hx
  · by_cases c : a = 33 ∧ j = lb + i
    · rw [c.1, c.2]; exact Or.inr ⟨by rw [mAr_s, upd_same], Or.inl rfl⟩
    · have ot : (mAr ρ 33 (lb + i) 0).2.2 a j = ρ.2.2 a j := by
        by_cases e : a = 33
        · subst e; rw [mAr_s, upd_other (fun z => c ⟨rfl, z⟩)]
        · rw [mAr_o e]
      have := h4 a j hr (fun z => hn (by unfold Fr at z ⊢; omega))
      unfold szV SVb at this ⊢
      rw [ot, mAr_o (by decide)]; exact this
theorem STb_fr (hS : STb T FN σ) (hF : FRn N σ ρ) : STb T FN ρ := STb_b hS (fun j hj => hF.1 j (by unfold AlS; omega) (by omega) (by omega) (by omega) (by unfold Fc; omega)) (fun a i h => hF.2.1 a i (by unfold AlR; omega) (by unfold Zn; omega) (fun z => by omega))
theorem EI_sc {j : Nat} {x : Int32} (hj : Fc j) (hE : EI t w XC σ1 σ2) : EI t w XC (mSc σ1 j x) (mSc σ2 j x) := by
  obtain ⟨g1, l1, B1, h1, X1, g2, l2, B2, h2, X2, m1, m2, hR, i1, i2, t1, e1, e2, w1, hw, x1, x2, y, a, a1, a2⟩ := hE
  have n : ∀ {i : Nat}, ¬ Fc i → ∀ σ : MS, (mSc σ j x).1 i = σ.1 i := fun h σ => upd_other (fun e => h (e ▸ hj))
  have c1 : ∀ σ : MS, (mSc σ j x).1 54 = σ.1 54 := n (by unfold Fc; omega)
  have c2 : ∀ σ : MS, (mSc σ j x).1 55 = σ.1 55 := n (by unfold Fc; omega)
  have c3 : ∀ σ : MS, (mSc σ j x).1 63 = σ.1 63 := n (by unfold Fc; omega)
  have c4 : ∀ σ : MS, (mSc σ j x).1 72 = σ.1 72 := n (by unfold Fc; omega)
  have c22 : ∀ σ : MS, (mSc σ j x).1 22 = σ.1 22 := n (by unfold Fc; omega)
  have c24 : ∀ σ : MS, (mSc σ j x).1 24 = σ.1 24 := n (by unfold Fc; omega)
  refine ⟨g1, l1, B1, h1, X1, g2, l2, B2, h2, X2, MI_c m1 (c1 _) (c2 _) (c3 _) (c4 _) rfl, MI_c m2 (c1 _) (c2 _) (c3 _) (c4 _) rfl, RA_c hR rfl rfl (c3 _) (c4 _) (c22 _) (c24 _) (n (i := 30) (by unfold Fc; omega) _) (n (i := 44) (by unfold Fc; omega) _) (fun i hi => ?_) hR.2.2.2, IT_c (c4 _) rfl rfl rfl i1, IT_c (c4 _) rfl rfl rfl i2, (n (i := 59) (by unfold Fc; omega) _).trans t1, (n (i := 56) (by unfold Fc; omega) _).trans e1, (n (i := 56) (by unfold Fc; omega) _).trans e2, (n (i := 57) (by unfold Fc; omega) _).trans w1, hw, x1, x2, y, a, (n (i := 95) (by unfold Fc; omega) _).trans a1, a2⟩
  show upd σ1.1 j x i = upd σ2.1 j x i
  by_cases e : i = j
  · rw [e, upd_same, upd_same]
  · rw [upd_other e, upd_other e]; exact hR.2.2.1 i hi
theorem EZ_sc {a b j : Nat} {x : Int32} (hj : Fc j) (h : EZ a b σ) : EZ a b (mSc σ j x) := by
  obtain ⟨g, l, B, h', t, m, c1, c2, c3, c4, c5, ⟨w, c6, c6'⟩, ⟨c, c7, c8⟩⟩ := h
  have n : ∀ {i : Nat}, ¬ Fc i → (mSc σ j x).1 i = σ.1 i := fun h => upd_other (fun e => h (e ▸ hj))
  refine ⟨g, l, B, h', t, MI_c m (n (by unfold Fc; omega)) (n (by unfold Fc; omega)) (n (by unfold Fc; omega)) (n (by unfold Fc; omega)) rfl, (n (by unfold Fc; omega)).trans c1, c2, c3, ?_, ErB_c (n (by unfold Fc; omega)) c5, ⟨w, (n (by unfold Fc; omega)).trans c6, c6'⟩, ⟨c, (n (by unfold Fc; omega)).trans c7, c8⟩⟩
  rw [n (i := 56) (by unfold Fc; omega)]; exact c4
/-- what lies at the top is counted as an answer -/
theorem E_ansT (hXC : XC ≤ 408500) (ht : t ≤ 176000) (hE : EI (t + 1) w XC σ1 σ2) : T2 (fun k => x_answer k 0 (upd (fun _ => 0) 1 (σ1.2.2 29 t)) σ1) (fun k => x_answer k 0 (upd (fun _ => 0) 1 (σ2.2.2 29 t)) σ2) (fun r1 r2 => FE σ1 r1.2 ∧ FE σ2 r2.2 ∧ ((∃ w', w ≤ w' ∧ EI (t + 1) w' XC r1.2 r2.2) ∨ (EZ t (t + 1) r1.2 ∧ EZ t (t + 1) r2.2))) := by
  obtain ⟨g1, l1, B1, h1, X1, g2, l2, B2, h2, X2, m1, m2, hR, i1, i2, t1, e1, e2, w1, hw, x1, x2, ⟨ty1, ty2⟩, a, a1, a2⟩ := hE
  have al : ∀ j, AlS j → σ2.1 j = σ1.1 j := fun j h => (hR.2.2.1 j h).symm
  have w2 : σ2.1 57 = nI w := (al 57 (by unfold AlS; omega)).trans w1
  have t2 : σ2.1 59 = nI (t + 1) := (al 59 (by unfold AlS; omega)).trans t1
  have a3 : σ2.1 95 = nI a := (al 95 (by unfold AlS; omega)).trans a1
  obtain ⟨c, d, cc1, cc2, cc3, cc4, cc5, cc6, cc7⟩ := hR.1 29 t (Or.inl ⟨rfl, by omega⟩) (by unfold VwR; omega)
  refine T2_mono (T2_of (s_answer m1.1 cc2 w1 (by omega) (by exact cc1)) (s_answer m2.1 cc4 w2 (by omega) (by exact cc3)) (fun n => Pm_wl (fun k => wl_answer k _ _ _) (fun k => wl_answer k _ _ _) (k_answer m1.1 m2.1 cc2 cc4 cc5 e1 e2 w1 w2 (by omega) (by exact cc1) (by exact cc3)))) (fun z1 z2 hz => ?_)
  obtain ⟨⟨⟨y1, y2, y3, y4⟩, wl1, wl2⟩, _, _⟩ := hz
  have ys1 : ∀ j, j ≠ 56 → j ≠ 57 → z1.2.1 j = σ1.1 j := fun j q1 q2 => WkO_s y3 q1 q2
  have ys2 : ∀ j, j ≠ 56 → j ≠ 57 → z2.2.1 j = σ2.1 j := fun j q1 q2 => WkO_s y4 q1 q2
  have n1 : MI (t + 1) X1 g1 l1 B1 h1 z1.2 := MI_c m1 (ys1 54 (by decide) (by decide)) (ys1 55 (by decide) (by decide)) (ys1 63 (by decide) (by decide)) (ys1 72 (by decide) (by decide)) (WkO_a y3)
  have n2 : MI (t + 1) X2 g2 l2 B2 h2 z2.2 := MI_c m2 (ys2 54 (by decide) (by decide)) (ys2 55 (by decide) (by decide)) (ys2 63 (by decide) (by decide)) (ys2 72 (by decide) (by decide)) (WkO_a y4)
  have sz := szN_b m1.1 cc2
  refine ⟨FE_wk y3, FE_wk y4, ?_⟩
  by_cases le : w + szN (σ1.2.2 28) c ≤ 60000
  · have zr1 := (WkO_er e1 y3).mpr le
    have zr2 := (WkO_er e2 y4).mpr le
    have y57 : z1.2.1 57 = nI (w + szN (σ1.2.2 28) c) := WkO_57 y3
    have z57 : z2.2.1 57 = nI (w + szN (σ1.2.2 28) c) := WkO_57 y4
    refine Or.inl ⟨w + szN (σ1.2.2 28) c, by omega, g1, l1, B1, h1, X1, g2, l2, B2, h2, X2, n1, n2, RA_c hR (WkO_a y3) (WkO_a y4) (ys1 63 (by decide) (by decide)) (ys1 72 (by decide) (by decide)) (ys1 22 (by decide) (by decide)) (ys1 24 (by decide) (by decide)) (ys1 30 (by decide) (by decide)) (ys1 44 (by decide) (by decide)) (fun j hj => ?_) (by rw [wl1, wl2]; exact hR.2.2.2), IT_c (ys1 72 (by decide) (by decide)) (congrFun (WkO_a y3) 34) (congrFun (WkO_a y3) 35) (congrFun (WkO_a y3) 28) i1, IT_c (ys2 72 (by decide) (by decide)) (congrFun (WkO_a y4) 34) (congrFun (WkO_a y4) 35) (congrFun (WkO_a y4) 28) i2, (ys1 59 (by decide) (by decide)).trans t1, zr1, zr2, y57, ⟨le, hw.2⟩, by omega, by omega, ⟨by rw [congrFun (WkO_a y3) 2]; exact ty1, by rw [congrFun (WkO_a y3) 2, congrFun (WkO_a y4) 2]; exact ty2⟩, a, (ys1 95 (by decide) (by decide)).trans a1, a2⟩
    by_cases e57 : j = 57
    · rw [e57, y57, z57]
    · rw [ys1 j (by unfold AlS at hj; omega) e57, ys2 j (by unfold AlS at hj; omega) e57]
      exact hR.2.2.1 j hj
  · have zr1 : ¬ z1.2.1 56 = 0 := fun y => le ((WkO_er e1 y3).mp y)
    have zr2 : ¬ z2.2.1 56 = 0 := fun y => le ((WkO_er e2 y4).mp y)
    have y57 : z1.2.1 57 = nI (w + szN (σ1.2.2 28) c) := WkO_57 y3
    have z57 : z2.2.1 57 = nI (w + szN (σ1.2.2 28) c) := WkO_57 y4
    exact Or.inr ⟨⟨g1, l1, B1, h1, t + 1, MI_X n1 (by omega), (ys1 59 (by decide) (by decide)).trans t1, by omega, Nat.le_refl _, zr1, WkO_E y3 ⟨0, e1, by decide⟩, ⟨_, y57, by omega⟩, ⟨a, (ys1 95 (by decide) (by decide)).trans a1, a2⟩⟩, ⟨g2, l2, B2, h2, t + 1, MI_X n2 (by omega), (ys2 59 (by decide) (by decide)).trans t2, by omega, Nat.le_refl _, zr2, WkO_E y4 ⟨0, e2, by decide⟩, ⟨_, z57, by omega⟩, ⟨a, (ys2 95 (by decide) (by decide)).trans a3, a2⟩⟩⟩
/-- behind the body of a function: frames are emptied, numbers restored, the answer counted -/
theorem b_callE {n c e t w w0 lb fu dp : Nat} {x68 x69 : Int32} {σ1 σ2 : MS} (hXC : XC ≤ 408500) (ht : t ≤ 174000) (hn : (1 ≤ n ∧ n < LNo T % 70001)) (hc : c ≤ 60) (hfu : fu ≤ 20) (hdp : dp ≤ 60) (hlb : lb + 60 ≤ 1380) (tc : ∀ (N : Nat → Nat → Prop) (ρ1 ρ2 : MS), FRn N σ1 ρ1 → FRn N σ2 ρ2 → ρ1.2.2 8 n = nI c ∧ ρ2.2.2 8 n = nI c) (s67 : σ1.1 67 = nI fu) (u67 : σ2.1 67 = nI fu) (s97 : σ1.1 97 = nI dp) (u97 : σ2.1 97 = nI dp) (s68 : σ1.1 68 = x68) (u68 : σ2.1 68 = x68) (s69 : σ1.1 69 = x69) (u69 : σ2.1 69 = x69) (hx : x69 = 0 ∨ x69 = 1) {N1 N2 : Nat → Int32} {τ1 τ2 : MS} (n1 : N1 1 = nI n) (o1 : N2 1 = nI n) (n4 : N1 4 = x68) (o4 : N2 4 = x68) (n5 : N1 5 = x69) (o5 : N2 5 = x69) (n6 : N1 6 = 0) (o6 : N2 6 = 0) (f1 : FRn (Fr lb 0) σ1 τ1) (f2 : FRn (Fr lb 0) σ2 τ2) (q67 : τ1.1 67 = nI (fu + 1)) (p67 : τ2.1 67 = nI (fu + 1)) (q97 : τ1.1 97 = nI (dp + c)) (p97 : τ2.1 97 = nI (dp + c)) (q68 : τ1.1 68 = nI lb) (p68 : τ2.1 68 = nI lb) (h : (w ≤ w0 ∧ EI (t + 1) w0 XC τ1 τ2) ∨ (EZ t (178000 + e) τ1 ∧ EZ t (178000 + e) τ2)) : T2 (fun k => x_GV k (e + 1) 2 16 N1 τ1) (fun k => x_GV k (e + 1) 2 16 N2 τ2) (EQ (178000 + (e + 1)) t w XC σ1 σ2) := by
  have b23 : ∀ (M1 M2 : Nat → Int32) (v1 v2 : MS), EQ (178000 + (e + 1)) t w XC σ1 σ2 (0, v1) (0, v2) → T2 (fun k => x_GV k (e + 1) 2 23 M1 v1) (fun k => x_GV k (e + 1) 2 23 M2 v2) (EQ (178000 + (e + 1)) t w XC σ1 σ2) := fun M1 M2 v1 v2 h => by
    refine T2_suc (fun k => e_callFunc_23 k _ _ _) (fun k => e_callFunc_23 k _ _ _) ?_
    exact T2_some h
  have b22 : ∀ (M1 M2 : Nat → Int32) (υ1 υ2 : MS), FE σ1 υ1 → FE σ2 υ2 → ((w ≤ w0 ∧ EI (t + 1) w0 XC υ1 υ2) ∨ (EZ t (178000 + e) υ1 ∧ EZ t (178000 + e) υ2)) → T2 (fun k => x_GV k (e + 1) 2 22 M1 υ1) (fun k => x_GV k (e + 1) 2 22 M2 υ2) (EQ (178000 + (e + 1)) t w XC σ1 σ2) := by
    intro M1 M2 υ1 υ2 k1 k2 h
    refine T2_suc (fun k => e_callFunc_22 k _ _ _) (fun k => e_callFunc_22 k _ _ _) ?_
    rcases h with ⟨hw, hJ⟩ | ⟨z1, z2⟩
    · obtain ⟨e1, e2⟩ := EI_e hJ
      obtain ⟨p1, p2⟩ := EI_59 hJ
      rw [e1, e2, p1, p2, show nI (t + 1) - 1 = nI t from n_sub (p := t + 1) (q := 1) (by omega) (by omega)]
      refine T2_ite Iff.rfl (fun _ _ => ?_) (fun z _ => absurd rfl z)
      refine T2_chk (n_in (by omega) (by omega)) (n_in (by omega) (by omega)) ?_
      rw [n_cl (p := t) (by omega)]
      refine T2_ob (E_ansT hXC (by omega) hJ) (fun r1 r2 hr => ?_)
      obtain ⟨g1, g2, hr⟩ := hr
      refine b23 _ _ _ _ ⟨FE_tr k1 g1, FE_tr k2 g2, ?_⟩
      rcases hr with ⟨w', hw', hr⟩ | ⟨z1, z2⟩
      · exact Or.inl ⟨w', by omega, hr⟩
      · exact Or.inr ⟨EZ_mo z1 (Nat.le_refl _) (by omega), EZ_mo z2 (Nat.le_refl _) (by omega)⟩
    · refine T2_ite ⟨fun z => absurd z (EZ_e z1), fun z => absurd z (EZ_e z2)⟩ (fun z _ => absurd z (EZ_e z1)) (fun _ _ => ?_)
      exact b23 _ _ _ _ ⟨k1, k2, Or.inr ⟨EZ_mo z1 (Nat.le_refl _) (by omega), EZ_mo z2 (Nat.le_refl _) (by omega)⟩⟩
  have sc : ∀ (j : Nat) (x : Int32) (υ1 υ2 : MS), Fc j → ((w ≤ w0 ∧ EI (t + 1) w0 XC υ1 υ2) ∨ (EZ t (178000 + e) υ1 ∧ EZ t (178000 + e) υ2)) → ((w ≤ w0 ∧ EI (t + 1) w0 XC (mSc υ1 j x) (mSc υ2 j x)) ∨ (EZ t (178000 + e) (mSc υ1 j x) ∧ EZ t (178000 + e) (mSc υ2 j x))) := fun j x υ1 υ2 hj h => h.imp (fun z => ⟨z.1, EI_sc hj z.2⟩) (fun z => ⟨EZ_sc hj z.1, EZ_sc hj z.2⟩)
  have b18 : ∀ (M1 M2 : Nat → Int32) (υ1 υ2 : MS), M1 1 = nI n → M2 1 = nI n → M1 4 = x68 → M2 4 = x68 → M1 5 = x69 → M2 5 = x69 → FRn (Fr lb 60) σ1 υ1 → FRn (Fr lb 60) σ2 υ2 → υ1.1 67 = nI (fu + 1) → υ2.1 67 = nI (fu + 1) → υ1.1 97 = nI (dp + c) → υ2.1 97 = nI (dp + c) → ((w ≤ w0 ∧ EI (t + 1) w0 XC υ1 υ2) ∨ (EZ t (178000 + e) υ1 ∧ EZ t (178000 + e) υ2)) → T2 (fun k => x_GV k (e + 1) 2 18 M1 υ1) (fun k => x_GV k (e + 1) 2 18 M2 υ2) (EQ (178000 + (e + 1)) t w XC σ1 σ2) := by
    intro M1 M2 υ1 υ2 m1 l1 m4 l4 m5 l5 k1 k2 h67 h67' h97 h97' h
    refine T2_suc (fun k => e_callFunc_18 k _ _ _) (fun k => e_callFunc_18 k _ _ _) ?_
    rw [h67, h67', show nI (fu + 1) - 1 = nI fu from n_sub (p := fu + 1) (q := 1) (by omega) (by omega)]
    show T2 (fun k => x_GV k (e + 1) 2 19 M1 (mSc υ1 67 (nI fu))) (fun k => x_GV k (e + 1) 2 19 M2 (mSc υ2 67 (nI fu))) _
    have k1 := FR_tr k1 (FR_sc (x := nI fu) (show Fc 67 by unfold Fc; omega))
    have k2 := FR_tr k2 (FR_sc (x := nI fu) (show Fc 67 by unfold Fc; omega))
    have h := sc 67 (nI fu) υ1 υ2 (by unfold Fc; omega) h
    have g97 : (mSc υ1 67 (nI fu)).1 97 = nI (dp + c) := h97
    have g97' : (mSc υ2 67 (nI fu)).1 97 = nI (dp + c) := h97'
    have g67 : (mSc υ1 67 (nI fu)).1 67 = nI fu := rfl
    have g67' : (mSc υ2 67 (nI fu)).1 67 = nI fu := rfl
    generalize mSc υ1 67 (nI fu) = α1 at k1 h g97 g67
    generalize mSc υ2 67 (nI fu) = α2 at k2 h g97' g67'
    refine T2_suc (fun k => e_callFunc_19 k _ _ _) (fun k => e_callFunc_19 k _ _ _) ?_
    rw [m1, l1]
    refine T2_chk (n_in (by omega) (by omega)) (n_in (by omega) (by omega)) ?_
    rw [n_cl (p := n) (by omega), (tc _ _ _ k1 k2).1, (tc _ _ _ k1 k2).2, g97, g97', n_sub (p := dp + c) (q := c) (by omega) (by omega), Nat.add_sub_cancel]
    show T2 (fun k => x_GV k (e + 1) 2 20 M1 (mSc α1 97 (nI dp))) (fun k => x_GV k (e + 1) 2 20 M2 (mSc α2 97 (nI dp))) _
    refine T2_suc (fun k => e_callFunc_20 k _ _ _) (fun k => e_callFunc_20 k _ _ _) ?_
    rw [m4, l4]
    show T2 (fun k => x_GV k (e + 1) 2 21 M1 (mSc (mSc α1 97 (nI dp)) 68 x68)) (fun k => x_GV k (e + 1) 2 21 M2 (mSc (mSc α2 97 (nI dp)) 68 x68)) _
    refine T2_suc (fun k => e_callFunc_21 k _ _ _) (fun k => e_callFunc_21 k _ _ _) ?_
    rw [m5, l5]
    refine T2_chk hx hx ?_
    show T2 (fun k => x_GV k (e + 1) 2 22 M1 (mSc (mSc (mSc α1 97 (nI dp)) 68 x68) 69 x69)) (fun k => x_GV k (e + 1) 2 22 M2 (mSc (mSc (mSc α2 97 (nI dp)) 68 x68) 69 x69)) _
    have h := sc 69 x69 _ _ (by unfold Fc; omega) (sc 68 x68 _ _ (by unfold Fc; omega) (sc 97 (nI dp) _ _ (by unfold Fc; omega) h))
    have k1 := FR_tr (FR_tr (FR_tr k1 (FR_sc (x := nI dp) (show Fc 97 by unfold Fc; omega))) (FR_sc (x := x68) (show Fc 68 by unfold Fc; omega))) (FR_sc (x := x69) (show Fc 69 by unfold Fc; omega))
    have k2 := FR_tr (FR_tr (FR_tr k2 (FR_sc (x := nI dp) (show Fc 97 by unfold Fc; omega))) (FR_sc (x := x68) (show Fc 68 by unfold Fc; omega))) (FR_sc (x := x69) (show Fc 69 by unfold Fc; omega))
    exact b22 _ _ _ _ (FE_fr k1 (fun a i z => by unfold Fr at z; omega) (g67.trans s67.symm) s68.symm s69.symm s97.symm) (FE_fr k2 (fun a i z => by unfold Fr at z; omega) (g67'.trans u67.symm) u68.symm u69.symm u97.symm) h
  have b16 : ∀ (q i : Nat) (M1 M2 : Nat → Int32) (υ1 υ2 : MS), q + i = 60 → M1 1 = nI n → M2 1 = nI n → M1 4 = x68 → M2 4 = x68 → M1 5 = x69 → M2 5 = x69 → M1 6 = nI i → M2 6 = nI i → FRn (Fr lb i) σ1 υ1 → FRn (Fr lb i) σ2 υ2 → υ1.1 67 = nI (fu + 1) → υ2.1 67 = nI (fu + 1) → υ1.1 97 = nI (dp + c) → υ2.1 97 = nI (dp + c) → υ1.1 68 = nI lb → υ2.1 68 = nI lb → ((w ≤ w0 ∧ EI (t + 1) w0 XC υ1 υ2) ∨ (EZ t (178000 + e) υ1 ∧ EZ t (178000 + e) υ2)) → T2 (fun k => x_GV k (e + 1) 2 16 M1 υ1) (fun k => x_GV k (e + 1) 2 16 M2 υ2) (EQ (178000 + (e + 1)) t w XC σ1 σ2) := by
    intro q
    induction q with
    | zero =>
      intro i M1 M2 υ1 υ2 hi m1 l1 m4 l4 m5 l5 m6 l6 k1 k2 h67 h67' h97 h97' h68 h68' h
      have e60 : i = 60 := by omega
      subst e60
      refine T2_suc (fun k => e_callFunc_16 k _ _ _) (fun k => e_callFunc_16 k _ _ _) ?_
      rw [m6, l6]
      exact T2_ite Iff.rfl (fun _ _ => b18 M1 M2 υ1 υ2 m1 l1 m4 l4 m5 l5 k1 k2 h67 h67' h97 h97' h) (fun z _ => absurd ((n_le (p := 60) (by decide) (by omega)).mpr (by omega)) z)
    | succ q ih =>
      intro i M1 M2 υ1 υ2 hi m1 l1 m4 l4 m5 l5 m6 l6 k1 k2 h67 h67' h97 h97' h68 h68' h
      refine T2_suc (fun k => e_callFunc_16 k _ _ _) (fun k => e_callFunc_16 k _ _ _) ?_
      rw [m6, l6, h68, h68', n_add (p := lb) (by omega)]
      refine T2_ite Iff.rfl (fun z _ => absurd ((n_le (p := 60) (by decide) (by omega)).mp z) (by omega)) (fun _ _ => ?_)
      refine T2_chk (n_in (by omega) (by omega)) (n_in (by omega) (by omega)) ?_
      rw [n_cl (p := lb + i) (by omega)]
      have pv : PlV 33 (lb + i) := Or.inr ⟨rfl, by omega⟩
      show T2 (fun k => x_GV k (e + 1) 2 17 M1 (mAr υ1 33 (lb + i) 0)) (fun k => x_GV k (e + 1) 2 17 M2 (mAr υ2 33 (lb + i) 0)) _
      refine T2_suc (fun k => e_callFunc_17 k _ _ _) (fun k => e_callFunc_17 k _ _ _) ?_
      rw [m6, l6, n_add1]
      exact ih (i + 1) _ _ _ _ (by omega) m1 l1 m4 l4 m5 l5 rfl rfl (FR_z k1) (FR_z k2) h67 h67' h97 h97' h68 h68' (h.imp (fun z => ⟨z.1, EI_bd0 z.2 pv⟩) (fun z => ⟨EZ_bd0 z.1 pv, EZ_bd0 z.2 pv⟩))
  exact b16 60 0 N1 N2 τ1 τ2 (by omega) n1 o1 n4 o4 n5 o5 n6 o6 f1 f2 q67 p67 q97 p97 q68 p68 h
end ECA
end JnS209
section JnS210
/-! Evaluation on both sides (reference): a function is called. -/
section ECB
variable {T : Nat → Nat → Int32} {FN : Nat → Nat → Prop} {O r K d t w XC : Nat} {lc : Nat → Prop} {σ1 σ2 : MS}
theorem b_call {n e f0 fn m c : Nat} (hE : PE T FN e) (hn : (1 ≤ n ∧ n < LNo T % 70001)) (hO : 1 ≤ O) (x5 : T 5 n = nI fn) (hF : FN fn m) (x8 : T 8 n = nI c) (hcO : 21 ≤ c + O) (hc : c ≤ 30) (hW : WN T FN f0 3 (O - 1) m K lc (T 6 n)) (hP : PC T FN O r K lc (e + 3) t w XC σ1) (hI : EI t w XC σ1 σ2) {L1 L2 : Nat → Int32} (d1 : L1 1 = nI n) (d2 : L2 1 = nI n) : T2 (fun k => x_GV k (e + 1) 2 0 L1 σ1) (fun k => x_GV k (e + 1) 2 0 L2 σ2) (EQ (178000 + (e + 1)) t w XC σ1 σ2) := by
  have ht := PC_t hP
  have hXC := hP.2.1
  have hd13 := hP.2.2.2.2.1
  have hS1 := hP.1
  have hS2 := EI_ST hI hS1
  obtain ⟨hfn, hm, hpm, F, b, hfb, hb70, hWb⟩ := hS1.2.1 fn m hF
  have tb : ∀ (τ1 τ2 : MS), FE σ1 τ1 → FE σ2 τ2 → ∀ a i, 4 ≤ a → a ≤ 9 → (1 ≤ i ∧ i < LNo T % 70001) → τ1.2.2 a i = T a i ∧ τ2.2.2 a i = T a i := fun τ1 τ2 f1 f2 a i h1 h2 h3 => ⟨(STb_fe hS1 f1).1 a i h1 (by omega) ⟨fun _ => h3, fun z => by omega⟩, (STb_fe hS2 f2).1 a i h1 (by omega) ⟨fun _ => h3, fun z => by omega⟩⟩
  have hP0 := hP
  obtain ⟨_, _, hO20, hr14, _, hr4, _, fu, dp, it, hC, hK, hpile, hdep⟩ := hP
  have hC0 := hC
  obtain ⟨c67, cfu, c97, cdp, c72, ⟨cc, cc1, cc2, cc3⟩, c69⟩ := hC
  have hRA : ∀ j, AlS j → σ2.1 j = σ1.1 j := by
    obtain ⟨g1, l1, B1, h1, X1, g2, l2, B2, h2, X2, hX⟩ := hI
    exact fun j h => (hX.2.2.1.2.2.1 j h).symm
  have k67 : σ2.1 67 = nI fu := (hRA 67 (by unfold AlS; omega)).trans c67
  have k97 : σ2.1 97 = nI dp := (hRA 97 (by unfold AlS; omega)).trans c97
  have k68 : σ2.1 68 = σ1.1 68 := hRA 68 (by unfold AlS; omega)
  have k69 : σ2.1 69 = σ1.1 69 := hRA 69 (by unfold AlS; omega)
  have k72 : σ2.1 72 = nI it := (hRA 72 (by unfold AlS; omega)).trans c72
  have hx69 : σ1.1 69 = 0 ∨ σ1.1 69 = 1 := c69.imp id (fun z => z.1)
  have tc : ∀ (N : Nat → Nat → Prop) (ρ1 ρ2 : MS), FRn N σ1 ρ1 → FRn N σ2 ρ2 → ρ1.2.2 8 n = nI c ∧ ρ2.2.2 8 n = nI c := fun N ρ1 ρ2 f1 f2 => ⟨by rw [(STb_fr hS1 f1).1 8 _ (by omega) (by omega) (by omega)]; exact x8, by rw [(STb_fr hS2 f2).1 8 _ (by omega) (by omega) (by omega)]; exact x8⟩
  have f59 : ∀ (σ : MS) (x : Int32), FE σ (mSc σ 59 x) := fun σ x => FE_sc (Or.inr (Or.inr (Or.inl rfl)))
  -- with an error: out
  have b2Z : ∀ (N1 N2 : Nat → Int32) (τ1 τ2 : MS), FE σ1 τ1 → FE σ2 τ2 → EZ t (178000 + e) τ1 → EZ t (178000 + e) τ2 → T2 (fun k => x_GV k (e + 1) 2 2 N1 τ1) (fun k => x_GV k (e + 1) 2 2 N2 τ2) (EQ (178000 + (e + 1)) t w XC σ1 σ2) := fun N1 N2 τ1 τ2 f1 f2 z1 z2 => by
    refine T2_suc (fun k => e_callFunc_2 k _ _ _) (fun k => e_callFunc_2 k _ _ _) ?_
    refine T2_ite ⟨fun z => absurd z (EZ_le z1), fun z => absurd z (EZ_le z2)⟩ (fun z _ => absurd z (EZ_le z1)) (fun _ _ => ?_)
    exact T2_some ⟨f1, f2, Or.inr ⟨EZ_mo z1 (Nat.le_refl _) (by omega), EZ_mo z2 (Nat.le_refl _) (by omega)⟩⟩
  -- the body
  have b15 : ∀ (w' : Nat) (N1 N2 : Nat → Int32) (υ1 υ2 : MS), fu + 1 ≤ 20 → dp + c ≤ 60 → N1 1 = nI n → N2 1 = nI n → N1 3 = nI fn → N2 3 = nI fn → N1 4 = σ1.1 68 → N2 4 = σ1.1 68 → N1 5 = σ1.1 69 → N2 5 = σ1.1 69 → FRn (Fr (60 * (1 + (fu + 1))) 0) σ1 υ1 → FRn (Fr (60 * (1 + (fu + 1))) 0) σ2 υ2 → υ1.1 67 = nI (fu + 1) → υ2.1 67 = nI (fu + 1) → υ1.1 97 = nI (dp + c) → υ2.1 97 = nI (dp + c) → υ1.1 68 = nI (60 * (1 + (fu + 1))) → υ2.1 68 = nI (60 * (1 + (fu + 1))) → υ1.1 69 = 1 → w ≤ w' → EI t w' XC υ1 υ2 → T2 (fun k => x_GV k (e + 1) 2 15 N1 υ1) (fun k => x_GV k (e + 1) 2 15 N2 υ2) (EQ (178000 + (e + 1)) t w XC σ1 σ2) := by
    intro w' N1 N2 υ1 υ2 hfu hdc n1 o1 n3 o3 n4 o4 n5 o5 f1 f2 q67 p67 q97 p97 q68 p68 q69 hw hJ
    have s1 := STb_fr hS1 f1
    have s2 := STb_fr hS2 f2
    have g1 : υ1.2.2 17 fn = nI b := by
      have := f1.2.1 17 fn (by unfold AlR; omega) (by unfold Zn; omega) (by omega)
      rw [this]; exact hfb
    have g2 : υ2.2.2 17 fn = nI b := by
      rw [EI_row hJ ⟨Or.inl rfl, STb_30 s1 hfn⟩]; exact g1
    have e72 : υ1.1 72 = nI it := (f1.1 72 (by unfold AlS; omega) (by decide) (by decide) (by decide) (by unfold Fc; omega)).trans c72
    have e30 : υ1.2.2 30 1 = nI cc := (f1.2.1 30 1 (by unfold AlR; omega) (by unfold Zn; omega) (by omega)).trans cc1
    have hC' : Cx lcF (fu + 1) (dp + c) it υ1 := ⟨q67, hfu, q97, hdc, e72, ⟨cc, e30, cc2, fun _ => Or.inl q69, ⟨fun s hs z => absurd z (by unfold lcF; omega), fun s hs z z69 _ => absurd (q69.symm.trans z69) (by decide)⟩⟩, Or.inr ⟨q69, by rw [fb_s]; exact q68⟩⟩
    have hw60 := EI_w hJ
    have hPC : PC T FN 20 14 60 lcF e t w' XC υ1 := ⟨s1, hXC, by omega, by omega, by omega, by omega, hw60, fu + 1, dp + c, it, hC', by omega, by omega, by omega⟩
    refine T2_suc (fun k => e_callFunc_15 k _ _ _) (fun k => e_callFunc_15 k _ _ _) ?_
    rw [n3, o3]
    refine T2_chk (n_in (by omega) (by omega)) (n_in (by omega) (by omega)) ?_
    rw [n_cl (p := fn) (by omega), g1, g2]
    refine T2_od ?_
    refine T2_ob (hE F 20 14 60 lcF (nI b) t w' XC υ1 υ2 _ _ hWb hPC hJ rfl rfl) (fun r1 r2 hr => ?_)
    obtain ⟨k1, k2, hr⟩ := hr
    have al1 : ∀ j, AlS j → j ≠ 57 → j ≠ 59 → j ≠ 95 → r1.2.1 j = υ1.1 j := k1.1
    have al2 : ∀ j, AlS j → j ≠ 57 → j ≠ 59 → j ≠ 95 → r2.2.1 j = υ2.1 j := k2.1
    have fin := fun w0 hh => b_callE (w := w) (w0 := w0) (lb := 60 * (1 + (fu + 1))) (fu := fu) (dp := dp) (x68 := σ1.1 68) (x69 := σ1.1 69) (e := e) hXC ht hn (by omega) cfu cdp (by omega) tc c67 k67 c97 k97 rfl k68 rfl k69 hx69 (N1 := upd N1 6 0) (N2 := upd N2 6 0) (τ1 := r1.2) (τ2 := r2.2) n1 o1 n4 o4 n5 o5 rfl rfl (FR_tr f1 (FR_fe k1)) (FR_tr f2 (FR_fe k2)) ((al1 67 (by unfold AlS; omega) (by decide) (by decide) (by decide)).trans q67) ((al2 67 (by unfold AlS; omega) (by decide) (by decide) (by decide)).trans p67) ((al1 97 (by unfold AlS; omega) (by decide) (by decide) (by decide)).trans q97) ((al2 97 (by unfold AlS; omega) (by decide) (by decide) (by decide)).trans p97) ((al1 68 (by unfold AlS; omega) (by decide) (by decide) (by decide)).trans q68) ((al2 68 (by unfold AlS; omega) (by decide) (by decide) (by decide)).trans p68) hh
    rcases hr with ⟨w2, hw2, hr⟩ | hr
    · exact fin w2 (Or.inl ⟨by omega, hr⟩)
    · exact fin w (Or.inr hr)
  -- the frame is filled
  have b10 : ∀ (q i w' : Nat) (N1 N2 : Nat → Int32) (υ1 υ2 : MS), q + i = 60 → fu + 1 ≤ 20 → dp + c ≤ 60 → N1 1 = nI n → N2 1 = nI n → N1 2 = nI t → N2 2 = nI t → N1 3 = nI fn → N2 3 = nI fn → N1 4 = σ1.1 68 → N2 4 = σ1.1 68 → N1 5 = σ1.1 69 → N2 5 = σ1.1 69 → N1 6 = nI i → N2 6 = nI i → FRn (Fr (60 * (1 + (fu + 1))) 0) σ1 υ1 → FRn (Fr (60 * (1 + (fu + 1))) 0) σ2 υ2 → υ1.1 67 = nI (fu + 1) → υ2.1 67 = nI (fu + 1) → υ1.1 97 = nI (dp + c) → υ2.1 97 = nI (dp + c) → υ1.1 68 = nI (60 * (1 + (fu + 1))) → υ2.1 68 = nI (60 * (1 + (fu + 1))) → υ1.1 69 = 1 → w ≤ w' → EI (t + m) w' XC υ1 υ2 → T2 (fun k => x_GV k (e + 1) 2 10 N1 υ1) (fun k => x_GV k (e + 1) 2 10 N2 υ2) (EQ (178000 + (e + 1)) t w XC σ1 σ2) := by
    intro q
    induction q with
    | zero =>
      intro i w' N1 N2 υ1 υ2 hi hfu hdc n1 o1 n2 o2 n3 o3 n4 o4 n5 o5 n6 o6 f1 f2 q67 p67 q97 p97 q68 p68 q69 hw hJ
      refine T2_suc (fun k => e_callFunc_10 k _ _ _) (fun k => e_callFunc_10 k _ _ _) ?_
      rw [n6, o6]
      refine T2_ite Iff.rfl (fun _ _ => ?_) (fun z _ => absurd ((n_le (p := 60) (by decide) (by omega)).mpr (by omega)) z)
      refine T2_suc (fun k => e_callFunc_14 k _ _ _) (fun k => e_callFunc_14 k _ _ _) ?_
      rw [n2, o2]
      exact b15 w' N1 N2 (mSc υ1 59 (nI t)) (mSc υ2 59 (nI t)) hfu hdc n1 o1 n3 o3 n4 o4 n5 o5 (FR_tr f1 (FR_fe (f59 _ _))) (FR_tr f2 (FR_fe (f59 _ _))) q67 p67 q97 p97 q68 p68 q69 hw (EI_dn (by omega) hJ)
    | succ q ih =>
      intro i w' N1 N2 υ1 υ2 hi hfu hdc n1 o1 n2 o2 n3 o3 n4 o4 n5 o5 n6 o6 f1 f2 q67 p67 q97 p97 q68 p68 q69 hw hJ
      have g1 : υ1.2.2 18 fn = nI m := by
        have := f1.2.1 18 fn (by unfold AlR; omega) (by unfold Zn; omega) (by omega)
        rw [this]; exact hpm
      have g2 : υ2.2.2 18 fn = nI m := by
        rw [EI_row hJ ⟨Or.inr rfl, STb_30 (STb_fr hS1 f1) hfn⟩]; exact g1
      have pv : PlV 33 (60 * (1 + (fu + 1)) + i) := Or.inr ⟨rfl, by omega⟩
      have b12 : ∀ (M1 M2 : Nat → Int32), M1 1 = nI n → M2 1 = nI n → M1 2 = nI t → M2 2 = nI t → M1 3 = nI fn → M2 3 = nI fn → M1 4 = σ1.1 68 → M2 4 = σ1.1 68 → M1 5 = σ1.1 69 → M2 5 = σ1.1 69 → M1 6 = nI i → M2 6 = nI i → M1 101 = nI (60 * (1 + (fu + 1)) + i) → M2 101 = nI (60 * (1 + (fu + 1)) + i) → EI (t + m) w' XC (mAr υ1 33 (60 * (1 + (fu + 1)) + i) (M1 100)) (mAr υ2 33 (60 * (1 + (fu + 1)) + i) (M2 100)) → T2 (fun k => x_GV k (e + 1) 2 12 M1 υ1) (fun k => x_GV k (e + 1) 2 12 M2 υ2) (EQ (178000 + (e + 1)) t w XC σ1 σ2) := by
        intro M1 M2 m1 l1 m2 l2 m3 l3 m4 l4 m5 l5 m6 l6 m101 l101 hJ2
        refine T2_suc (fun k => e_callFunc_12 k _ _ _) (fun k => e_callFunc_12 k _ _ _) ?_
        rw [m101, l101]
        refine T2_chk (n_in (by omega) (by omega)) (n_in (by omega) (by omega)) ?_
        rw [n_cl (p := 60 * (1 + (fu + 1)) + i) (by omega)]
        show T2 (fun k => x_GV k (e + 1) 2 13 M1 (mAr υ1 33 (60 * (1 + (fu + 1)) + i) (M1 100))) (fun k => x_GV k (e + 1) 2 13 M2 (mAr υ2 33 (60 * (1 + (fu + 1)) + i) (M2 100))) _
        refine T2_suc (fun k => e_callFunc_13 k _ _ _) (fun k => e_callFunc_13 k _ _ _) ?_
        rw [m6, l6, n_add1]
        exact ih (i + 1) w' _ _ _ _ (by omega) hfu hdc m1 l1 m2 l2 m3 l3 m4 l4 m5 l5 rfl rfl (FR_tr f1 (FR_fen (FE_bd pv ⟨rfl, by omega, by omega⟩))) (FR_tr f2 (FR_fen (FE_bd pv ⟨rfl, by omega, by omega⟩))) q67 p67 q97 p97 q68 p68 q69 hw hJ2
      refine T2_suc (fun k => e_callFunc_10 k _ _ _) (fun k => e_callFunc_10 k _ _ _) ?_
      rw [n6, o6, n3, o3, q68, p68, n2, o2, n_add (p := 60 * (1 + (fu + 1))) (by omega), n_add (p := t) (by omega)]
      refine T2_ite Iff.rfl (fun z _ => absurd ((n_le (p := 60) (by decide) (by omega)).mp z) (by omega)) (fun _ _ => ?_)
      refine T2_chk (n_in (by omega) (by omega)) (n_in (by omega) (by omega)) ?_
      rw [n_cl (p := fn) (by omega), g1, g2]
      refine T2_ite Iff.rfl (fun _ _ => ?_) (fun z _ => ?_)
      · refine T2_suc (fun k => e_callFunc_11 k _ _ _) (fun k => e_callFunc_11 k _ _ _) ?_
        exact b12 _ _ n1 o1 n2 o2 n3 o3 n4 o4 n5 o5 n6 o6 rfl rfl (EI_bd0 hJ pv)
      · have him : i < m := by
          by_cases y : i < m
          · exact y
          · exact absurd ((n_le (by omega) (by omega)).mpr (by omega)) z
        refine T2_chk (n_in (by omega) (by omega)) (n_in (by omega) (by omega)) ?_
        rw [n_cl (p := t + i) (by omega)]
        refine b12 _ _ n1 o1 n2 o2 n3 o3 n4 o4 n5 o5 n6 o6 rfl rfl (EI_bd hJ pv (fun g1 l1 B1 h1 X1 g2 l2 B2 h2 X2 hX => ?_))
        obtain ⟨m1, m2, hR, _⟩ := hX
        have hr : RtP (t + m) υ1 29 (t + i) := Or.inl ⟨rfl, by omega⟩
        exact ⟨hR.1 29 (t + i) hr (by unfold VwR; omega), MI_rt m1 hr, MI_rt m2 ((RA_rt m1.2.1 hR (t + m) 29 (t + i)).mpr hr)⟩
  -- all arguments are there
  have b2 : ∀ (w' : Nat) (N1 N2 : Nat → Int32) (τ1 τ2 : MS), N1 1 = nI n → N2 1 = nI n → N1 2 = nI t → N2 2 = nI t → FE σ1 τ1 → FE σ2 τ2 → w ≤ w' → EI (t + m) w' XC τ1 τ2 → T2 (fun k => x_GV k (e + 1) 2 2 N1 τ1) (fun k => x_GV k (e + 1) 2 2 N2 τ2) (EQ (178000 + (e + 1)) t w XC σ1 σ2) := by
    intro w' N1 N2 τ1 τ2 n1 o1 n2 o2 f1 f2 hw hJ
    obtain ⟨e1, e2⟩ := EI_e hJ
    refine T2_suc (fun k => e_callFunc_2 k _ _ _) (fun k => e_callFunc_2 k _ _ _) ?_
    rw [e1, e2]
    refine T2_ite Iff.rfl (fun _ _ => ?_) (fun z _ => absurd (by decide) z)
    have b4 : ∀ (M1 M2 : Nat → Int32), T2 (fun k => x_GV k (e + 1) 2 4 M1 τ1) (fun k => x_GV k (e + 1) 2 4 M2 τ2) (EQ (178000 + (e + 1)) t w XC σ1 σ2) := fun M1 M2 => by
      refine T2_suc (fun k => e_callFunc_4 k _ _ _) (fun k => e_callFunc_4 k _ _ _) ?_
      refine T2_ob (T2_t (s_fail _ _) (s_fail _ _)) (fun r1 r2 hr => ?_)
      rw [hr.1, hr.2]
      obtain ⟨z1, z2⟩ := E_er (a := t) (b := 178000 + (e + 1)) (e := 7) hXC hJ (by decide) (by decide) (by omega) (by omega)
      exact T2_some ⟨FE_tr f1 FE_er, FE_tr f2 FE_er, Or.inr ⟨z1, z2⟩⟩
    have a67 : τ1.1 67 = nI fu := (f1.1 67 (by unfold AlS; omega) (by decide) (by decide) (by decide)).trans c67
    have z67 : τ2.1 67 = nI fu := (f2.1 67 (by unfold AlS; omega) (by decide) (by decide) (by decide)).trans k67
    have a97 : τ1.1 97 = nI dp := (f1.1 97 (by unfold AlS; omega) (by decide) (by decide) (by decide)).trans c97
    have z97 : τ2.1 97 = nI dp := (f2.1 97 (by unfold AlS; omega) (by decide) (by decide) (by decide)).trans k97
    refine T2_suc (fun k => e_callFunc_3 k _ _ _) (fun k => e_callFunc_3 k _ _ _) ?_
    rw [a67, z67, a97, z97, n1, o1]
    refine T2_ite Iff.rfl (fun _ _ => b4 _ _) (fun y20 _ => ?_)
    have hfu : fu + 1 ≤ 20 := by
      have : ¬ fu = 20 := fun c => y20 (by rw [c]; rfl)
      omega
    refine T2_chk (n_in (by omega) (by omega)) (n_in (by omega) (by omega)) ?_
    rw [n_cl (p := n) (by omega), (tb _ _ f1 f2 8 _ (by omega) (by omega) (by omega)).1, (tb _ _ f1 f2 8 _ (by omega) (by omega) (by omega)).2, x8, n_add (p := dp) (by omega)]
    refine T2_ite Iff.rfl (fun y60 _ => ?_) (fun _ _ => b4 _ _)
    have hdc := (n_le (q := 60) (by omega) (by decide)).mp y60
    refine T2_suc (fun k => e_callFunc_5 k _ _ _) (fun k => e_callFunc_5 k _ _ _) ?_
    refine T2_ob (E_sw hXC (by omega) hJ) (fun r1 r2 hr => ?_)
    obtain ⟨g1, g2, gA, lA, BA, hA, XA, gB, lB, BB, hB, XB, hX, _, _⟩ := hr
    have k1 := FE_tr f1 g1
    have k2 := FE_tr f2 g2
    have hJ2 : EI (t + m) w' XC r1.2 r2.2 := ⟨gA, lA, BA, hA, XA, gB, lB, BB, hB, XB, hX⟩
    have r67 : r1.2.1 67 = nI fu := (k1.1 67 (by unfold AlS; omega) (by decide) (by decide) (by decide)).trans c67
    have v67 : r2.2.1 67 = nI fu := (k2.1 67 (by unfold AlS; omega) (by decide) (by decide) (by decide)).trans k67
    have r97 : r1.2.1 97 = nI dp := (k1.1 97 (by unfold AlS; omega) (by decide) (by decide) (by decide)).trans c97
    have v97 : r2.2.1 97 = nI dp := (k2.1 97 (by unfold AlS; omega) (by decide) (by decide) (by decide)).trans k97
    have r68 : r1.2.1 68 = σ1.1 68 := k1.1 68 (by unfold AlS; omega) (by decide) (by decide) (by decide)
    have v68 : r2.2.1 68 = σ1.1 68 := (k2.1 68 (by unfold AlS; omega) (by decide) (by decide) (by decide)).trans k68
    have r69 : r1.2.1 69 = σ1.1 69 := k1.1 69 (by unfold AlS; omega) (by decide) (by decide) (by decide)
    have v69 : r2.2.1 69 = σ1.1 69 := (k2.1 69 (by unfold AlS; omega) (by decide) (by decide) (by decide)).trans k69
    rw [n1, o1]
    refine T2_chk (n_in (by omega) (by omega)) (n_in (by omega) (by omega)) ?_
    rw [n_cl (p := n) (by omega), (tb _ _ k1 k2 5 _ (by omega) (by omega) (by omega)).1, (tb _ _ k1 k2 5 _ (by omega) (by omega) (by omega)).2, x5, r67, v67, n_add1, r68, v68, r69, v69]
    show T2 (fun k => x_GV k (e + 1) 2 6 (upd (upd (upd N1 3 (nI fn)) 4 (σ1.1 68)) 5 (σ1.1 69)) (mSc r1.2 67 (nI (fu + 1)))) (fun k => x_GV k (e + 1) 2 6 (upd (upd (upd N2 3 (nI fn)) 4 (σ1.1 68)) 5 (σ1.1 69)) (mSc r2.2 67 (nI (fu + 1)))) _
    have i67 : Fc 67 := by unfold Fc; omega
    have i68 : Fc 68 := by unfold Fc; omega
    have i69 : Fc 69 := by unfold Fc; omega
    have i97 : Fc 97 := by unfold Fc; omega
    have q1 : FRn (Fr (60 * (1 + (fu + 1))) 0) σ1 _ := FR_tr (FR_fe k1) (FR_sc (x := nI (fu + 1)) i67)
    have q2 : FRn (Fr (60 * (1 + (fu + 1))) 0) σ2 _ := FR_tr (FR_fe k2) (FR_sc (x := nI (fu + 1)) i67)
    refine T2_suc (fun k => e_callFunc_6 k _ _ _) (fun k => e_callFunc_6 k _ _ _) ?_
    have m1 : (upd (upd (upd N1 3 (nI fn)) 4 (σ1.1 68)) 5 (σ1.1 69)) 1 = nI n := n1
    have m2 : (upd (upd (upd N2 3 (nI fn)) 4 (σ1.1 68)) 5 (σ1.1 69)) 1 = nI n := o1
    have t97 : (mSc r1.2 67 (nI (fu + 1))).1 97 = nI dp := r97
    have t97' : (mSc r2.2 67 (nI (fu + 1))).1 97 = nI dp := v97
    rw [m1, m2, t97, t97']
    refine T2_chk (n_in (by omega) (by omega)) (n_in (by omega) (by omega)) ?_
    rw [n_cl (p := n) (by omega), (tc (Fr (60 * (1 + (fu + 1))) 0) _ _ q1 q2).1, (tc (Fr (60 * (1 + (fu + 1))) 0) _ _ q1 q2).2, n_add (p := dp) (by omega)]
    show T2 (fun k => x_GV k (e + 1) 2 7 (upd (upd (upd N1 3 (nI fn)) 4 (σ1.1 68)) 5 (σ1.1 69)) (mSc (mSc r1.2 67 (nI (fu + 1))) 97 (nI (dp + c)))) (fun k => x_GV k (e + 1) 2 7 (upd (upd (upd N2 3 (nI fn)) 4 (σ1.1 68)) 5 (σ1.1 69)) (mSc (mSc r2.2 67 (nI (fu + 1))) 97 (nI (dp + c)))) _
    refine T2_suc (fun k => e_callFunc_7 k _ _ _) (fun k => e_callFunc_7 k _ _ _) ?_
    have e60 : (60 : Int32) * (1 + nI (fu + 1)) = nI (60 * (1 + (fu + 1))) := by
      rw [show (1 : Int32) + nI (fu + 1) = nI (1 + (fu + 1)) from n_add (p := 1) (by omega)]
      exact n_mulN 60 (1 + (fu + 1))
    have y67 : (mSc (mSc r1.2 67 (nI (fu + 1))) 97 (nI (dp + c))).1 67 = nI (fu + 1) := rfl
    have y67' : (mSc (mSc r2.2 67 (nI (fu + 1))) 97 (nI (dp + c))).1 67 = nI (fu + 1) := rfl
    rw [y67, y67', e60]
    show T2 (fun k => x_GV k (e + 1) 2 8 (upd (upd (upd N1 3 (nI fn)) 4 (σ1.1 68)) 5 (σ1.1 69)) (mSc (mSc (mSc r1.2 67 (nI (fu + 1))) 97 (nI (dp + c))) 68 (nI (60 * (1 + (fu + 1)))))) (fun k => x_GV k (e + 1) 2 8 (upd (upd (upd N2 3 (nI fn)) 4 (σ1.1 68)) 5 (σ1.1 69)) (mSc (mSc (mSc r2.2 67 (nI (fu + 1))) 97 (nI (dp + c))) 68 (nI (60 * (1 + (fu + 1)))))) _
    refine T2_suc (fun k => e_callFunc_8 k _ _ _) (fun k => e_callFunc_8 k _ _ _) ?_
    refine T2_suc (fun k => e_callFunc_9 k _ _ _) (fun k => e_callFunc_9 k _ _ _) ?_
    show T2 (fun k => x_GV k (e + 1) 2 10 _ (mSc (mSc (mSc (mSc r1.2 67 (nI (fu + 1))) 97 (nI (dp + c))) 68 (nI (60 * (1 + (fu + 1))))) 69 1)) (fun k => x_GV k (e + 1) 2 10 _ (mSc (mSc (mSc (mSc r2.2 67 (nI (fu + 1))) 97 (nI (dp + c))) 68 (nI (60 * (1 + (fu + 1))))) 69 1)) _
    exact b10 60 0 w' _ _ _ _ (by omega) hfu hdc n1 o1 n2 o2 rfl rfl rfl rfl rfl rfl rfl rfl (FR_tr (FR_tr (FR_tr q1 (FR_sc (x := nI (dp + c)) i97)) (FR_sc (x := nI (60 * (1 + (fu + 1)))) i68)) (FR_sc (x := 1) i69)) (FR_tr (FR_tr (FR_tr q2 (FR_sc (x := nI (dp + c)) i97)) (FR_sc (x := nI (60 * (1 + (fu + 1)))) i68)) (FR_sc (x := 1) i69)) rfl rfl rfl rfl rfl rfl rfl hw (EI_sc i69 (EI_sc i68 (EI_sc i97 (EI_sc i67 hJ2))))
  -- one argument after another
  have b1 : ∀ (f m' j w' : Nat) (x : Int32) (N1 N2 : Nat → Int32) (τ1 τ2 : MS), WN T FN f 3 (O - 1) m' K lc x → j + m' = m → N1 1 = nI n → N2 1 = nI n → N1 2 = nI t → N2 2 = nI t → N1 3 = x → N2 3 = x → FE σ1 τ1 → FE σ2 τ2 → w ≤ w' → EI (t + j) w' XC τ1 τ2 → T2 (fun k => x_GV k (e + 1) 2 1 N1 τ1) (fun k => x_GV k (e + 1) 2 1 N2 τ2) (EQ (178000 + (e + 1)) t w XC σ1 σ2) := by
    intro f
    induction f with
    | zero => intro m' j w' x N1 N2 τ1 τ2 hW; exact hW.elim
    | succ f ih =>
      intro m' j w' x N1 N2 τ1 τ2 hW hjm n1 o1 n2 o2 n3 o3 f1 f2 hw hJ
      unfold WN at hW
      rcases hW with ⟨z, _⟩ | ⟨z, _⟩ | ⟨z, _⟩ | ⟨_, hor⟩ | ⟨z, _⟩ | ⟨z, _⟩ | ⟨z, _⟩
      case inl => exact absurd z (by decide)
      case inr.inl => exact absurd z (by decide)
      case inr.inr.inl => exact absurd z (by decide)
      case inr.inr.inr.inr.inl => exact absurd z (by decide)
      case inr.inr.inr.inr.inr.inl => exact absurd z (by decide)
      case inr.inr.inr.inr.inr.inr => exact absurd z (by decide)
      obtain ⟨e1, e2⟩ := EI_e hJ
      refine T2_suc (fun k => e_callFunc_1 k _ _ _) (fun k => e_callFunc_1 k _ _ _) ?_
      rw [n3, o3, e1, e2]
      rcases hor with ⟨hz, xz⟩ | ⟨m'', c', rm, xc, hc', W0, W9⟩
      · rw [xz]
        refine T2_ite Iff.rfl (fun _ _ => ?_) (fun z _ => absurd rfl z)
        have hj : j = m := by omega
        subst hj
        exact b2 w' _ _ τ1 τ2 n1 o1 n2 o2 f1 f2 hw hJ
      refine T2_ite Iff.rfl (fun z _ => ?_) (fun _ _ => ?_)
      · rw [xc] at z
        have : (nI c').toInt = (-1 : Int32).toInt := by rw [z]
        rw [n_int (by omega), show (-1 : Int32).toInt = -1 from by decide] at this
        omega
      refine T2_ite Iff.rfl (fun _ _ => ?_) (fun z _ => absurd rfl z)
      refine T2_od ?_
      refine T2_ob (hE f (O - 1) 14 K lc x (t + j) w' XC τ1 τ2 _ _ W0 (PC_in (PC_fe hP0 f1 hw (EI_w hJ)) hO (Nat.le_refl _) (by omega) (by omega) (by omega)) hJ rfl rfl) (fun r1 r2 hr => ?_)
      obtain ⟨g1, g2, hr⟩ := hr
      have k1 := FE_tr f1 g1
      have k2 := FE_tr f2 g2
      rw [xc]
      refine T2_chk (n_in (by omega) (by omega)) (n_in (by omega) (by omega)) ?_
      rw [n_cl (p := c') (by omega), (tb _ _ k1 k2 9 _ (by omega) (by omega) (by omega)).1, (tb _ _ k1 k2 9 _ (by omega) (by omega) (by omega)).2]
      rcases hr with ⟨w2, hw2, hJ2⟩ | ⟨z1, z2⟩
      · exact ih m'' (j + 1) w2 (T 9 c') _ _ r1.2 r2.2 W9 (by omega) n1 o1 n2 o2 rfl rfl k1 k2 (by omega) hJ2
      · have z1' : EZ t (178000 + e) r1.2 := EZ_mo z1 (by omega) (Nat.le_refl _)
        have z2' : EZ t (178000 + e) r2.2 := EZ_mo z2 (by omega) (Nat.le_refl _)
        refine T2_suc (fun k => e_callFunc_1 k _ _ _) (fun k => e_callFunc_1 k _ _ _) ?_
        refine T2_ite (c1 := T 9 c' = -1) (c2 := T 9 c' = -1) Iff.rfl (fun _ _ => b2Z _ _ _ _ k1 k2 z1' z2') (fun _ _ => ?_)
        exact T2_ite ⟨fun z => absurd z (EZ_e z1), fun z => absurd z (EZ_e z2)⟩ (fun z _ => absurd z (EZ_e z1)) (fun _ _ => b2Z _ _ _ _ k1 k2 z1' z2')
  refine T2_suc (fun k => e_callFunc_0 k _ _ _) (fun k => e_callFunc_0 k _ _ _) ?_
  obtain ⟨p1, p2⟩ := EI_59 hI
  rw [d1, d2, p1, p2]
  refine T2_chk (n_in (by omega) (by omega)) (n_in (by omega) (by omega)) ?_
  rw [n_cl (p := n) (by omega), hS1.1 6 _ (by omega) (by omega) (by omega), hS2.1 6 _ (by omega) (by omega) (by omega)]
  exact b1 f0 m 0 w (T 6 n) _ _ σ1 σ2 hW (by omega) d1 d2 rfl rfl rfl rfl FE_rf FE_rf (Nat.le_refl _) hI
end ECB
end JnS210
section JnS211
/-! Evaluation on both sides (reference): what can be reached is a heap of its own; distinct within an evaluation. -/
section HRC
variable {g : Nat → Prop} {l : List Nat} {B h t X : Nat} {σ : MS}
/-- what can be reached from the roots: good objects, and closed -/
theorem HS_rc (hM : MI t X g l B h σ) : HS (Rch (σ.2.2 28) (RoS t σ)) l B h σ := by
  obtain ⟨m1, m2, m3, m4⟩ := hM
  have hb := HS_b m1
  have gd : ∀ m, Rch (σ.2.2 28) (RoS t σ) m → g m := fun m z => Rch_good m1.2.2.2.2 hb.2 (fun v => RoS_good m1 m3) z
  obtain ⟨a1, a2, a3, a4, a5, a6⟩ := id m1
  refine ⟨a1, a2, a3, a4, a5, fun v hv => ?_⟩
  obtain ⟨q1, k, n, s, h', G1, G2, G3, G4, G5, G6, G7, G8, G9, G10, G11, G12⟩ := a6 v (gd v hv)
  refine ⟨q1, k, n, s, h', G1, G2, G3, G4, G5, G6, G7, G8, G9, G10, G11, fun hk => ⟨(G12 hk).1, fun i hi => ?_⟩⟩
  obtain ⟨m, e1, e2, e3⟩ := (G12 hk).2 i hi
  refine ⟨m, e1, ?_, e3⟩
  by_cases c : m < 3
  · exact Or.inl c
  · have k56 : k = 5 ∨ k = 6 := by omega
    exact Or.inr (Rch_s hv (by rcases k56 with y | y <;> rw [← y, G1] <;> simp) G2 G8 hi e1 (by omega) (HS_vb m1 e2))
end HRC
section EDI
variable {t u w XC n : Nat} {σ1 σ2 τ1 τ2 : MS} {g1 g2 : Nat → Prop} {l1 l2 : List Nat} {B1 h1 X1 B2 h2 X2 : Nat}
/-- the piles alone are others: what lies upon them could be reached before -/
theorem EI_pl2 (hX : EIx t w XC σ1 σ2 g1 l1 B1 h1 X1 g2 l2 B2 h2 X2) (s1 : ∀ j, j ≠ 59 → τ1.1 j = σ1.1 j) (s2 : ∀ j, j ≠ 59 → τ2.1 j = σ2.1 j) (w1 : τ1.2.1 = σ1.2.1) (w2 : τ2.2.1 = σ2.2.1) (r1 : ∀ a, ¬ (a = 29 ∨ a = 41) → τ1.2.2 a = σ1.2.2 a) (r2 : ∀ a, ¬ (a = 29 ∨ a = 41) → τ2.2.2 a = σ2.2.2 a) (u1 : τ1.1 59 = nI u) (u2 : τ2.1 59 = nI u) (p1 : ∀ i, i < u → ∃ m, τ1.2.2 29 i = nI m ∧ (m < 3 ∨ Rch (σ1.2.2 28) (RoS t σ1) m)) (p2 : ∀ i, i < u → ∃ m, τ2.2.2 29 i = nI m ∧ (m < 3 ∨ Rch (σ2.2.2 28) (RoS t σ2) m)) (pv : ∀ i, i < u → VC g1 g2 (σ1.2.2 28) (σ2.2.2 28) (τ1.2.2 29 i) (τ2.2.2 29 i)) : EI u w XC τ1 τ2 := by
  obtain ⟨m1, m2, hR, i1, i2, t1, e1, e2, y1, hw, x1, x2, ⟨ty1, ty2⟩, a, a1, a2⟩ := hX
  have rc1 : ∀ x i, RtP u τ1 x i ↔ RtP u σ1 x i := RtP_c (s1 63 (by decide)) (s1 72 (by decide)) (r1 30 (by decide)) (r1 31 (by decide))
  have rc2 : ∀ x i, RtP u τ2 x i ↔ RtP u σ2 x i := RtP_c (s2 63 (by decide)) (s2 72 (by decide)) (r2 30 (by decide)) (r2 31 (by decide))
  have q1 : RtQ τ1 := RtQ_c (s1 63 (by decide)) (s1 72 (by decide)) (r1 30 (by decide)) (r1 31 (by decide)) m1.2.1
  have q2 : RtQ τ2 := RtQ_c (s2 63 (by decide)) (s2 72 (by decide)) (r2 30 (by decide)) (r2 31 (by decide)) m2.2.1
  have n41 : ∀ {σ : MS} {x i : Nat}, RtP u σ x i → x ≠ 41 := fun z => by unfold RtP at z; omega
  have n1 : MI u X1 g1 l1 B1 h1 τ1 := MI_re m1 (s1 54 (by decide)) (s1 55 (by decide)) (r1 28 (by decide)) q1 (fun x i z => by
    have z := (rc1 x i).mp z
    have z41 := n41 z
    by_cases e : x = 29
    · subst e
      exact p1 i (by unfold RtP at z; omega)
    · rw [r1 x (by omega)]; exact MI_rt m1 ((RtP_n29 e).mp z))
  have n2 : MI u X2 g2 l2 B2 h2 τ2 := MI_re m2 (s2 54 (by decide)) (s2 55 (by decide)) (r2 28 (by decide)) q2 (fun x i z => by
    have z := (rc2 x i).mp z
    have z41 := n41 z
    by_cases e : x = 29
    · subst e
      exact p2 i (by unfold RtP at z; omega)
    · rw [r2 x (by omega)]; exact MI_rt m2 ((RtP_n29 e).mp z))
  refine ⟨g1, l1, B1, h1, X1, g2, l2, B2, h2, X2, n1, n2, ⟨fun x i z hv => ?_, fun x i hx hz hn => ?_, fun j hj => ?_, ?_⟩, IT_c (s1 72 (by decide)) (r1 34 (by decide)) (r1 35 (by decide)) (r1 28 (by decide)) i1, IT_c (s2 72 (by decide)) (r2 34 (by decide)) (r2 35 (by decide)) (r2 28 (by decide)) i2, u1, (s1 56 (by decide)).trans e1, (s2 56 (by decide)).trans e2, (s1 57 (by decide)).trans y1, hw, x1, x2, ⟨by rw [r1 2 (by decide)]; exact ty1, by rw [r1 2 (by decide), r2 2 (by decide)]; exact ty2⟩, a, (s1 95 (by decide)).trans a1, a2⟩
  · have z := (rc1 x i).mp z
    have z41 := n41 z
    rw [r1 28 (by decide), r2 28 (by decide)]
    by_cases e : x = 29
    · subst e
      exact pv i (by unfold RtP at z; omega)
    · rw [r1 x (by omega), r2 x (by omega)]; exact hR.1 x i ((RtP_n29 e).mp z) hv
  · have e : ¬ (x = 29 ∨ x = 41) := by unfold AlR at hx; omega
    rw [r1 x e, r2 x e]; exact hR.2.1 x i hx hz (fun z => hn ((InA_c (σ := σ1) (ρ := τ1) (s1 63 (by decide)) (s1 72 (by decide)) (s1 22 (by decide)) (s1 24 (by decide)) (s1 30 (by decide)) (s1 44 (by decide)) (fun u _ => by rw [r1 21 (by decide)]) (fun j _ => by rw [r1 30 (by decide)]) (fun p _ j _ => by rw [r1 31 (by decide)]) x i).mpr z))
  · by_cases e : j = 59
    · rw [e, u1, u2]
    · rw [s1 j e, s2 j e]; exact hR.2.2.1 j hj
  · rw [w1, w2]; exact hR.2.2.2
theorem FE_sf {f : Nat} {σ τ : MS} (s : SF f σ τ) : FE σ τ := ⟨fun j _ _ h _ => s.1 j h, fun a i h _ _ => by rw [s.2.1 a (by unfold AlR at h; omega)], s.2.1 2 (by decide), KPn_same (s.2.1 28 (by decide)) (fun a h => s.2.1 a (by omega))⟩
/-- what lies above t upon the piles, without those that are equal -/
theorem E_dis (hE : EI (t + n) w XC σ1 σ2) (hn : n ≤ 60100) (ht : t + n ≤ 185000) {L : Nat → Int32} (d1 : L 1 = nI t) : T2 (fun k => x_distinct k 0 L σ1) (fun k => x_distinct k 0 L σ2) (fun r1 r2 => FE σ1 r1.2 ∧ FE σ2 r2.2 ∧ ∃ v, v ≤ n ∧ EI (t + v) w XC r1.2 r2.2) := by
  obtain ⟨g1, l1, B1, h1, X1, g2, l2, B2, h2, X2, hX⟩ := hE
  have m1 := hX.1
  have m2 := hX.2.1
  have hR := hX.2.2.1
  have t1 := hX.2.2.2.2.2.1
  have t2 : σ2.1 59 = nI (t + n) := (hR.2.2.1 59 (by unfold AlS; omega)).symm.trans t1
  have pl : PlE g1 g2 σ1 σ2 t n := fun i hi => hR.1 29 (t + i) (Or.inl ⟨rfl, by omega⟩) (by unfold VwR; omega)
  refine T2_mono (T2_of (s_distinct (HS_rc m1) (fun i hi => MI_rt m1 (Or.inl ⟨rfl, by omega⟩)) t1 ht hn d1) (s_distinct (HS_rc m2) (fun i hi => MI_rt m2 (Or.inl ⟨rfl, by omega⟩)) t2 ht hn d1) (fun n' => Pm_wl (fun k => wl_distinct k _ _ _) (fun k => wl_distinct k _ _ _) (k_distinct m1.1 m2.1 t1 t2 hn ht pl d1))) (fun r1 r2 hr => ?_)
  obtain ⟨⟨⟨v, hv, sf1, sf2, p1, p2, pv⟩, wl1, wl2⟩, ⟨v1, hv1, _, q1, pl1⟩, ⟨v2, hv2, _, q2, pl2⟩⟩ := hr
  have ev1 : v1 = v := by
    have := (n_eq (by omega) (by omega)).mp (q1.symm.trans p1)
    omega
  have ev2 : v2 = v := by
    have := (n_eq (by omega) (by omega)).mp (q2.symm.trans p2)
    omega
  subst ev1
  subst ev2
  refine ⟨FE_sf sf1, FE_sf sf2, v2, hv, EI_pl2 hX sf1.1 sf2.1 wl1 wl2 sf1.2.1 sf2.2.1 p1 p2 (fun i hi => ?_) (fun i hi => ?_) (fun i hi => ?_)⟩
  · by_cases c : i < t
    · rw [sf1.2.2 i c]; exact MI_rt m1 (Or.inl ⟨rfl, by omega⟩)
    · have := pl1 (i - t) (by omega)
      rw [show t + (i - t) = i by omega] at this
      exact this
  · by_cases c : i < t
    · rw [sf2.2.2 i c]; exact MI_rt m2 (Or.inl ⟨rfl, by omega⟩)
    · have := pl2 (i - t) (by omega)
      rw [show t + (i - t) = i by omega] at this
      exact this
  · by_cases c : i < t
    · rw [sf1.2.2 i c, sf2.2.2 i c]; exact hR.1 29 i (Or.inl ⟨rfl, by omega⟩) (by unfold VwR; omega)
    · have := pv (i - t) (by omega)
      rw [show t + (i - t) = i by omega] at this
      exact this
/-- the same with an error -/
theorem Z_dis {b : Nat} {σ : MS} (hZ : EZ t b σ) (hb : b ≤ 185000) (h59 : σ.1 59 = nI (t + n)) (hn : n ≤ 60100) {L : Nat → Int32} (d1 : L 1 = nI t) : Tm (fun k => x_distinct k 0 L σ) (fun r => FE σ r.2 ∧ ∃ v, v ≤ n ∧ r.2.1 59 = nI (t + v) ∧ EZ t b r.2) := by
  obtain ⟨g, l, B, h, t', m, c1, c2, c3, c4, c5, c6, c7⟩ := hZ
  have et : t' = t + n := (n_eq (by omega) (by omega)).mp (c1.symm.trans h59)
  subst et
  refine Tm_mono (s_distinct m.1 (fun i hi => m.2.2.1 29 (t + i) (Or.inl ⟨rfl, by omega⟩)) c1 (by omega) hn d1) (fun r hr => ?_)
  obtain ⟨v, hv, sf, q1, pl⟩ := hr
  have rc : ∀ x i, RtP (t + v) r.2 x i ↔ RtP (t + v) σ x i := RtP_c (sf.1 63 (by decide)) (sf.1 72 (by decide)) (sf.2.1 30 (by decide)) (sf.2.1 31 (by decide))
  have e56 : r.2.1 56 = σ.1 56 := sf.1 56 (by decide)
  refine ⟨FE_sf sf, v, hv, q1, g, l, B, h, t + v, MI_any (SF_HS sf m.1) (RtQ_c (sf.1 63 (by decide)) (sf.1 72 (by decide)) (sf.2.1 30 (by decide)) (sf.2.1 31 (by decide)) m.2.1) (fun x i z => ?_), q1, by omega, by omega, by rw [e56]; exact c4, ErB_c e56 c5, by rw [sf.1 57 (by decide)]; exact c6, by rw [sf.1 95 (by decide)]; exact c7⟩
  have z := (rc x i).mp z
  have z41 : x ≠ 41 := by unfold RtP at z; omega
  by_cases e : x = 29
  · subst e
    have hi : i < t + v := by unfold RtP at z; omega
    by_cases c : i < t
    · rw [sf.2.2 i c]; exact m.2.2.1 29 i (Or.inl ⟨rfl, by omega⟩)
    · have := pl (i - t) (by omega)
      rw [show t + (i - t) = i by omega] at this
      exact this
  · rw [sf.2.1 x (by omega)]; exact m.2.2.1 x i ((RtP_n29 e).mp z)
end EDI
end JnS211
section JnS212
/-! Evaluation on both sides (reference): sets in brackets. -/
section ESZ
variable {t b c e : Nat}
/-- one side, with an error: out of the loop -/
theorem z_set15 {τ : MS} (hz : ¬ τ.1 56 = 0) (N : Nat → Int32) : Tm (fun k => x_GV k (e + 1) 11 15 N τ) (fun r => r.2 = τ) := by
  refine Tm_suc (fun k => e_setBrackets_15 k _ _ _) ?_
  refine Tm_ite (fun z => absurd z hz) (fun _ => ?_)
  refine Tm_suc (fun k => e_setBrackets_16 k _ _ _) ?_
  refine Tm_ite (fun z => absurd z hz) (fun _ => ?_)
  refine Tm_suc (fun k => e_setBrackets_17 k _ _ _) ?_
  refine Tm_ite (fun z => absurd z hz) (fun _ => ?_)
  refine Tm_suc (fun k => e_setBrackets_18 k _ _ _) ?_
  exact Tm_some rfl
theorem z_set14 {τ : MS} (hz : ¬ τ.1 56 = 0) (hc : c < 70000) {N : Nat → Int32} (h5 : N 5 = nI c) : Tm (fun k => x_GV k (e + 1) 11 14 N τ) (fun r => r.2 = τ) := by
  refine Tm_suc (fun k => e_setBrackets_14 k _ _ _) ?_
  rw [h5]
  refine Tm_chk (n_in (by omega) (by omega)) ?_
  refine Tm_suc (fun k => e_setBrackets_1 k _ _ _) ?_
  refine Tm_ite (fun _ => z_set15 hz _) (fun _ => ?_)
  exact Tm_ite (fun z => absurd z hz) (fun _ => z_set15 hz _)
theorem z_set8 {τ : MS} {v : Nat} (hZ : EZ t b τ) (hb : b ≤ 185000) (htb : t ≤ b) (hc : c < 70000) (hv9 : v ≤ 60100) (h59 : τ.1 59 = nI (t + v)) : ∀ (q i : Nat) (N : Nat → Int32), q + i = v → N 2 = nI t → N 5 = nI c → N 7 = nI (t + i) → Tm (fun k => x_GV k (e + 1) 11 8 N τ) (fun r => FE τ r.2 ∧ EZ t b r.2) := by
  have f59 : ∀ (x : Int32), FE τ (mSc τ 59 x) := fun x => FE_sc (Or.inr (Or.inr (Or.inl rfl)))
  have hv : t + v ≤ 185000 ∧ ∃ (g : Nat → Prop) (l : List Nat) (B h : Nat), MI (t + v) 870000 g l B h τ := by
    obtain ⟨g, l, B, h, t', m, c1, c2, c3, _⟩ := hZ
    have et : t' = t + v := (n_eq (by omega) (by omega)).mp (c1.symm.trans h59)
    subst et
    exact ⟨by omega, g, l, B, h, m⟩
  intro q
  induction q with
  | zero =>
    intro i N hi n2 n5 n7
    refine Tm_suc (fun k => e_setBrackets_8 k _ _ _) ?_
    rw [h59, n7]
    refine Tm_ite (fun _ => ?_) (fun z => absurd ((n_le (by omega) (by omega)).mpr (by omega)) z)
    refine Tm_suc (fun k => e_setBrackets_9 k _ _ _) ?_
    refine Tm_ite (fun _ => ?_) (fun _ => ?_)
    · refine Tm_suc (fun k => e_setBrackets_10 k _ _ _) ?_
      refine Tm_suc (fun k => e_setBrackets_11 k _ _ _) ?_
      refine Tm_ite (c := (0 : Int32) = 0) (fun _ => ?_) (fun z => absurd rfl z)
      refine Tm_suc (fun k => e_setBrackets_12 k _ _ _) ?_
      refine Tm_suc (fun k => e_setBrackets_13 k _ _ _) ?_
      refine Tm_mono (z_set14 (τ := mSc τ 59 (τ.1 59)) (EZ_e (EZ_59 hZ)) hc (by exact n5)) (fun r hr => ?_)
      rw [hr]; exact ⟨f59 _, EZ_59 hZ⟩
    · refine Tm_suc (fun k => e_setBrackets_11 k _ _ _) ?_
      refine Tm_ite (c := (1 : Int32) = 0) (fun z => absurd z (by decide)) (fun _ => ?_)
      refine Tm_suc (fun k => e_setBrackets_13 k _ _ _) ?_
      have hd : EZ t b (mSc τ 59 (nI t)) := EZ_dn hZ (Nat.le_refl _) htb
      refine Tm_mono (z_set14 (τ := mSc τ 59 (N 2)) (by rw [n2]; exact EZ_e hd) hc (by exact n5)) (fun r hr => ?_)
      rw [hr, n2]; exact ⟨f59 _, hd⟩
  | succ q ih =>
    intro i N hi n2 n5 n7
    obtain ⟨hv1, g, l, B, h, m⟩ := hv
    refine Tm_suc (fun k => e_setBrackets_8 k _ _ _) ?_
    rw [h59, n7]
    refine Tm_ite (fun z => absurd ((n_le (by omega) (by omega)).mp z) (by omega)) (fun _ => ?_)
    refine Tm_chk (n_in (by omega) (by omega)) ?_
    rw [n_cl (p := t + i) (by omega)]
    obtain ⟨x, x1, x2⟩ := m.2.2.1 29 (t + i) (Or.inl ⟨rfl, by omega⟩)
    refine Tm_ob (s_size m.1 x2 (by exact x1)) (fun r hr => ?_)
    rw [hr]
    exact ih (i + 1) _ (by omega) n2 n5 (by show nI (t + i) + 1 = _; rw [n_add1]; rfl)
theorem z_set7 {τ : MS} (hZ : EZ t b τ) (hb : b ≤ 185000) (htb : t ≤ b) (hc : c < 70000) {N : Nat → Int32} (n2 : N 2 = nI t) (n5 : N 5 = nI c) : Tm (fun k => x_GV k (e + 1) 11 7 N τ) (fun r => FE τ r.2 ∧ EZ t b r.2) := by
  have hZ0 := hZ
  obtain ⟨g, l, B, h, t', m, c1, c2, c3, _⟩ := hZ
  refine Tm_suc (fun k => e_setBrackets_7 k _ _ _) ?_
  rw [c1, n2, n_sub (by omega) c2]
  refine Tm_ite (fun z => ?_) (fun _ => ?_)
  · have z : t' - t = 1200 := (n_eq (q := 1200) (by omega) (by decide)).mp z
    have et : t' = t + 1200 := by omega
    refine Tm_ob (Z_dis hZ0 hb (by rw [c1, et]) (by decide) rfl) (fun r hr => ?_)
    obtain ⟨f1, v, hv, q1, hz⟩ := hr
    refine Tm_mono (z_set8 hz hb htb hc (by omega) q1 v 0 _ (by omega) n2 n5 rfl) (fun r' hr' => ?_)
    exact ⟨FE_tr f1 hr'.1, hr'.2⟩
  · refine Tm_mono (z_set14 (EZ_e hZ0) hc n5) (fun r hr => ?_)
    rw [hr]; exact ⟨FE_rf, hZ0⟩
theorem z_set5 {τ : MS} (hZ : EZ t b τ) (hb : b ≤ 185000) (htb : t ≤ b) (hc : c < 70000) {N : Nat → Int32} (n2 : N 2 = nI t) (n5 : N 5 = nI c) : Tm (fun k => x_GV k (e + 1) 11 5 N τ) (fun r => FE τ r.2 ∧ EZ t b r.2) := by
  refine Tm_suc (fun k => e_setBrackets_5 k _ _ _) ?_
  refine Tm_ite (fun z => absurd z (EZ_e hZ)) (fun _ => ?_)
  exact z_set7 hZ hb htb hc n2 n5
theorem z_set2 {τ : MS} (hZ : EZ t b τ) (hb : b ≤ 185000) (htb : t ≤ b) (hc : c < 70000) {N : Nat → Int32} (n2 : N 2 = nI t) (n5 : N 5 = nI c) : Tm (fun k => x_GV k (e + 1) 11 2 N τ) (fun r => FE τ r.2 ∧ EZ t b r.2) := by
  refine Tm_suc (fun k => e_setBrackets_2 k _ _ _) ?_
  refine Tm_ite (fun _ => ?_) (fun _ => ?_)
  · refine Tm_suc (fun k => e_setBrackets_4 k _ _ _) ?_
    exact z_set5 hZ hb htb hc n2 n5
  · refine Tm_suc (fun k => e_setBrackets_3 k _ _ _) ?_
    exact z_set5 hZ hb htb hc n2 n5
end ESZ
end JnS212
