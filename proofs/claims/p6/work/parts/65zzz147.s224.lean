/-! Evaluation on both sides (reference): quantifiers. -/
/-- locals of a quantifier -/
def QuL (n e0 : Nat) (p : Int32) (N : Nat → Int32) : Prop := N 1 = nI n ∧ N 2 = nI e0 ∧ N 3 = p
def QuP (N : Nat → Nat → Prop) (n c e0 m t w XC : Nat) (p : Int32) (it : Nat → Nat) (σ1 σ2 : MS) (q : Nat) : Prop := ∀ (w' : Nat) (N1 N2 : Nat → Int32) (τ1 τ2 : MS), 60001 ≤ q + w' → w ≤ w' → QuL n e0 p N1 → QuL n e0 p N2 → N1 5 = 1 → N2 5 = 1 → FI N e0 σ1 τ1 → FI N e0 σ2 τ2 → GIt e0 m it τ1 τ2 → EI t w' XC τ1 τ2 → T2 (fun k => x_GV k (c + 3) 10 3 N1 τ1) (fun k => x_GV k (c + 3) 10 3 N2 τ2) (EQ (178000 + (c + 3)) t w XC σ1 σ2)
section EQU
variable {T : Nat → Nat → Int32} {FN : Nat → Nat → Prop} {O r K d t u w XC : Nat} {lc : Nat → Prop} {σ σ1 σ2 τ τ1 τ2 ρ : MS} {n c m e0 fu dp : Nat} {p : Int32} {it : Nat → Nat}
/-- a quantifier's end, with an error -/
theorem b_qendZ {b : Nat} (hF : FoC T FN O K lc n e0 m fu dp it σ1 σ2) (f1 : FI (NmI T σ1 it 0 m) e0 σ1 τ1) (f2 : FI (NmI T σ1 it 0 m) e0 σ2 τ2) (hb : b ≤ 178000 + (c + 3)) (z1 : EZ t b τ1) (z2 : EZ t b τ2) (y1 : ∃ e1, e0 ≤ e1 ∧ e1 ≤ 4000 ∧ τ1.1 72 = nI e1) (y2 : ∃ e1, e0 ≤ e1 ∧ e1 ≤ 4000 ∧ τ2.1 72 = nI e1) {N1 N2 : Nat → Int32} (hN1 : QuL n e0 p N1) (hN2 : QuL n e0 p N2) : T2 (fun k => x_GV k (c + 3) 10 8 N1 τ1) (fun k => x_GV k (c + 3) 10 8 N2 τ2) (EQ (178000 + (c + 3)) t w XC σ1 σ2) := by
  have hn := hF.1
  refine T2_suc (fun k => e_quantify_8 k _ _ _) (fun k => e_quantify_8 k _ _ _) ?_
  rw [hN1.2.1, hN2.2.1]
  show T2 (fun k => x_GV k (c + 3) 10 9 N1 (mSc τ1 72 (nI e0))) (fun k => x_GV k (c + 3) 10 9 N2 (mSc τ2 72 (nI e0))) _
  refine T2_suc (fun k => e_quantify_9 k _ _ _) (fun k => e_quantify_9 k _ _ _) ?_
  rw [hN1.1, hN2.1]
  refine T2_chk (n_in (by omega) (by omega)) (n_in (by omega) (by omega)) ?_
  rw [n_cl (p := n) (by omega), (FoC_tb hF (FI_tr f1 (FI_72 (x := nI e0))) (FI_tr f2 (FI_72 (x := nI e0))) (a := 6) (by omega) (by omega) (by omega)).1, (FoC_tb hF (FI_tr f1 (FI_72 (x := nI e0))) (FI_tr f2 (FI_72 (x := nI e0))) (a := 6) (by omega) (by omega) (by omega)).2]
  refine T2_ob (z_close hF f1 f2 z1 z2 y1 y2 hF.2.2.2.2.2.2.2.2 hF.2.2.2.2.2.2.2.2) (fun r1 r2 hr => ?_)
  obtain ⟨k1, k2, v1, v2⟩ := hr
  refine T2_ite ⟨fun z => absurd z (EZ_e v1), fun z => absurd z (EZ_e v2)⟩ (fun z _ => absurd z (EZ_e v1)) (fun _ _ => ?_)
  refine T2_suc (fun k => e_quantify_12 k _ _ _) (fun k => e_quantify_12 k _ _ _) ?_
  exact T2_some ⟨k1, k2, Or.inr ⟨EZ_mo v1 (Nat.le_refl _) hb, EZ_mo v2 (Nat.le_refl _) hb⟩⟩
/-- a quantifier's end -/
theorem b_qend {w' : Nat} (hF : FoC T FN O K lc n e0 m fu dp it σ1 σ2) (ht : t ≤ 174000) (hw' : w ≤ w') (f1 : FI (NmI T σ1 it 0 m) e0 σ1 τ1) (f2 : FI (NmI T σ1 it 0 m) e0 σ2 τ2) (y1 : ∃ e1, e0 ≤ e1 ∧ e1 ≤ 4000 ∧ τ1.1 72 = nI e1) (hI : EI t w' XC τ1 τ2) {N1 N2 : Nat → Int32} (hN1 : QuL n e0 p N1) (hN2 : QuL n e0 p N2) (n4 : N1 4 = N2 4) : T2 (fun k => x_GV k (c + 3) 10 8 N1 τ1) (fun k => x_GV k (c + 3) 10 8 N2 τ2) (EQ (178000 + (c + 3)) t w XC σ1 σ2) := by
  have hn := hF.1
  refine T2_suc (fun k => e_quantify_8 k _ _ _) (fun k => e_quantify_8 k _ _ _) ?_
  rw [hN1.2.1, hN2.2.1]
  show T2 (fun k => x_GV k (c + 3) 10 9 N1 (mSc τ1 72 (nI e0))) (fun k => x_GV k (c + 3) 10 9 N2 (mSc τ2 72 (nI e0))) _
  refine T2_suc (fun k => e_quantify_9 k _ _ _) (fun k => e_quantify_9 k _ _ _) ?_
  rw [hN1.1, hN2.1, hN1.2.2, hN2.2.2, n4]
  refine T2_chk (n_in (by omega) (by omega)) (n_in (by omega) (by omega)) ?_
  rw [n_cl (p := n) (by omega), (FoC_tb hF (FI_tr f1 (FI_72 (x := nI e0))) (FI_tr f2 (FI_72 (x := nI e0))) (a := 6) (by omega) (by omega) (by omega)).1, (FoC_tb hF (FI_tr f1 (FI_72 (x := nI e0))) (FI_tr f2 (FI_72 (x := nI e0))) (a := 6) (by omega) (by omega) (by omega)).2]
  refine T2_ob (E_close hF f1 f2 y1 hI hF.2.2.2.2.2.2.2.2 hF.2.2.2.2.2.2.2.2) (fun r1 r2 hr => ?_)
  obtain ⟨F1, F2, s1, s2, hK⟩ := hr
  obtain ⟨e1, e2⟩ := EI_e hK
  have fin : ∀ (M1 M2 : Nat → Int32), M1 100 = M2 100 → T2 (fun k => x_GV k (c + 3) 10 11 M1 r1.2) (fun k => x_GV k (c + 3) 10 11 M2 r2.2) (EQ (178000 + (c + 3)) t w XC σ1 σ2) := by
    intro M1 M2 m100
    refine T2_suc (fun k => e_quantify_11 k _ _ _) (fun k => e_quantify_11 k _ _ _) ?_
    refine E_tru (by omega) hK (by exact m100) (fun v1 v2 h1 h2 h => ?_)
    refine T2_suc (fun k => e_quantify_12 k _ _ _) (fun k => e_quantify_12 k _ _ _) ?_
    exact T2_some (EQ_ans F1 F2 hw' (by omega) h1 h2 h)
  rw [e1, e2]
  refine T2_ite Iff.rfl (fun _ _ => ?_) (fun z _ => absurd rfl z)
  refine T2_ite Iff.rfl (fun _ _ => fin _ _ rfl) (fun _ _ => ?_)
  refine T2_suc (fun k => e_quantify_10 k _ _ _) (fun k => e_quantify_10 k _ _ _) ?_
  exact fin _ _ rfl
/-- behind goOn: the next round, or the end -/
theorem qu_ent {q w' : Nat} (ht : t ≤ 174000) (hF : FoC T FN O K lc n e0 m fu dp it σ1 σ2) (hq : QuP (NmI T σ1 it 0 m) n c e0 m t w XC p it σ1 σ2 q) (hw : 60000 ≤ q + w') (hj : w ≤ w') {r1 r2 : Int32 × MS} (hr : GnQ (NmI T σ1 it 0 m) (178000 + c) e0 m t w' XC it σ1 σ2 r1 r2) {N1 N2 : Nat → Int32} (hN1 : QuL n e0 p N1) (hN2 : QuL n e0 p N2) (n4 : N1 4 = N2 4) (n5 : N1 5 = r1.1) (o5 : N2 5 = r2.1) : T2 (fun k => x_GV k (c + 3) 10 3 N1 r1.2) (fun k => x_GV k (c + 3) 10 3 N2 r2.2) (EQ (178000 + (c + 3)) t w XC σ1 σ2) := by
  have hK := hF.2.2.2.2.2.1
  obtain ⟨g1, g2, h12, hor⟩ := hr
  rcases hor with ⟨w2, hw2, hJ, hor⟩ | ⟨z0, z1, z2, y1, y2⟩
  · rcases hor with ⟨y0, yw, hG⟩ | ⟨y0, y72, rm1, rm2⟩
    · exact hq w2 N1 N2 r1.2 r2.2 (by omega) (by omega) hN1 hN2 (n5.trans y0) (o5.trans (h12.symm.trans y0)) g1 g2 hG hJ
    · refine T2_suc (fun k => e_quantify_3 k _ _ _) (fun k => e_quantify_3 k _ _ _) ?_
      rw [n5, o5, ← h12, y0]
      refine T2_ite Iff.rfl (fun _ _ => ?_) (fun z _ => absurd rfl z)
      exact b_qend hF ht (by omega) g1 g2 ⟨e0, by omega, by omega, y72⟩ hJ hN1 hN2 n4
  · refine T2_suc (fun k => e_quantify_3 k _ _ _) (fun k => e_quantify_3 k _ _ _) ?_
    rw [n5, o5, ← h12, z0]
    refine T2_ite Iff.rfl (fun _ _ => ?_) (fun z _ => absurd rfl z)
    exact b_qendZ hF g1 g2 (by omega) z1 z2 y1 y2 hN1 hN2
/-- an error within the loop -/
theorem qu_z4 {b : Nat} (hF : FoC T FN O K lc n e0 m fu dp it σ1 σ2) (f1 : FI (NmI T σ1 it 0 m) e0 σ1 τ1) (f2 : FI (NmI T σ1 it 0 m) e0 σ2 τ2) (hb : b ≤ 178000 + (c + 3)) (z1 : EZ t b τ1) (z2 : EZ t b τ2) (y1 : τ1.1 72 = nI (e0 + m)) (y2 : τ2.1 72 = nI (e0 + m)) {N1 N2 : Nat → Int32} (hN1 : QuL n e0 p N1) (hN2 : QuL n e0 p N2) : T2 (fun k => x_GV k (c + 3) 10 4 N1 τ1) (fun k => x_GV k (c + 3) 10 4 N2 τ2) (EQ (178000 + (c + 3)) t w XC σ1 σ2) := by
  have hK := hF.2.2.2.2.2.1
  refine T2_suc (fun k => e_quantify_4 k _ _ _) (fun k => e_quantify_4 k _ _ _) ?_
  refine T2_suc (fun k => e_quantify_5 k _ _ _) (fun k => e_quantify_5 k _ _ _) ?_
  refine T2_ite ⟨fun z => absurd z (EZ_e z1), fun z => absurd z (EZ_e z2)⟩ (fun z _ => absurd z (EZ_e z1)) (fun _ _ => ?_)
  refine T2_suc (fun k => e_quantify_6 k _ _ _) (fun k => e_quantify_6 k _ _ _) ?_
  refine T2_suc (fun k => e_quantify_7 k _ _ _) (fun k => e_quantify_7 k _ _ _) ?_
  refine T2_suc (fun k => e_quantify_3 k _ _ _) (fun k => e_quantify_3 k _ _ _) ?_
  refine T2_ite (c1 := (0 : Int32) = 0) (c2 := (0 : Int32) = 0) Iff.rfl (fun _ _ => ?_) (fun z _ => absurd rfl z)
  exact b_qendZ hF f1 f2 hb z1 z2 ⟨e0 + m, by omega, by omega, y1⟩ ⟨e0 + m, by omega, by omega, y2⟩ hN1 hN2
theorem qu_4 {q w' : Nat} (hE0 : PE T FN c) (hO : 1 ≤ O) (hP : PC T FN O r K lc (c + 5) t w XC σ1) (hF : FoC T FN (O - 1) K lc n e0 m fu dp it σ1 σ2) (hq : QuP (NmI T σ1 it 0 m) n c e0 m t w XC p it σ1 σ2 q) (hw : 60000 ≤ q + w') (hj : w ≤ w') {N1 N2 : Nat → Int32} (hN1 : QuL n e0 p N1) (hN2 : QuL n e0 p N2) (f1 : FI (NmI T σ1 it 0 m) e0 σ1 τ1) (f2 : FI (NmI T σ1 it 0 m) e0 σ2 τ2) (hG : GIt e0 m it τ1 τ2) (hI : EI t w' XC τ1 τ2) : T2 (fun k => x_GV k (c + 3) 10 4 N1 τ1) (fun k => x_GV k (c + 3) 10 4 N2 τ2) (EQ (178000 + (c + 3)) t w XC σ1 σ2) := by
  have ht := PC_t hP
  have hn := hF.1
  have hK := hF.2.2.2.2.2.1
  obtain ⟨e1, e2⟩ := EI_e hI
  refine T2_suc (fun k => e_quantify_4 k _ _ _) (fun k => e_quantify_4 k _ _ _) ?_
  refine T2_suc (fun k => e_quantify_5 k _ _ _) (fun k => e_quantify_5 k _ _ _) ?_
  rw [e1, e2]
  refine T2_ite Iff.rfl (fun _ _ => ?_) (fun z _ => absurd rfl z)
  refine T2_ite (c1 := (0 : Int32) = 0) (c2 := (0 : Int32) = 0) Iff.rfl (fun _ _ => ?_) (fun z _ => absurd rfl z)
  have a1 : (upd N1 100 0) 1 = nI n := hN1.1
  have a2 : (upd N2 100 0) 1 = nI n := hN2.1
  rw [a1, a2]
  refine T2_chk (n_in (by omega) (by omega)) (n_in (by omega) (by omega)) ?_
  rw [n_cl (p := n) (by omega), (FoC_tb hF f1 f2 (a := 6) (by omega) (by omega) (by omega)).1, (FoC_tb hF f1 f2 (a := 6) (by omega) (by omega) (by omega)).2]
  refine T2_od ?_
  refine T2_ob (b_goOn (N := NmI T σ1 it 0 m) (x := 0) hE0 hO hP hF.2.2.2.1.2.2.2.2.1 hK.1 hF.2.2.1 hF.2.2.2.2.2.2.1 hF.2.2.2.2.2.2.2.1 (fun j hj a i z => ⟨j, Nat.zero_le _, hj, z⟩) (by omega) (by omega) (by omega) (Nat.le_refl m) (Or.inl ⟨rfl, hF.2.2.2.2.2.2.1⟩) f1 f2 hG hI (by exact hN1.2.1) (by exact hN2.2.1) (by exact hF.2.2.2.2.2.2.2.2) (by exact hF.2.2.2.2.2.2.2.2) rfl rfl) (fun r1 r2 hr => ?_)
  have h12 := hr.2.2.1
  refine T2_ite ⟨fun z => h12.symm.trans z, fun z => h12.trans z⟩ (fun z z' => ?_) (fun z z' => ?_)
  · refine T2_suc (fun k => e_quantify_6 k _ _ _) (fun k => e_quantify_6 k _ _ _) ?_
    refine T2_suc (fun k => e_quantify_7 k _ _ _) (fun k => e_quantify_7 k _ _ _) ?_
    exact qu_ent ht hF hq hw hj hr hN1 hN2 rfl z.symm z'.symm
  · have y1 : r1.1 = 1 := by
      rcases hr.2.2.2 with ⟨_, _, _, y | y⟩ | y
      · exact y.1
      · exact absurd y.1 z
      · exact absurd y.1 z
    refine T2_suc (fun k => e_quantify_7 k _ _ _) (fun k => e_quantify_7 k _ _ _) ?_
    exact qu_ent ht hF hq hw hj hr hN1 hN2 rfl y1.symm (h12.symm.trans y1).symm
theorem qu_loop {f0 : Nat} (hE0 : PE T FN c) (hE1 : PE T FN (c + 1)) (hO : 1 ≤ O) (W7 : WN T FN f0 0 (O - 1) 14 (K - m) lc (T 7 n)) (hP : PC T FN O r K lc (c + 5) t w XC σ1) (hF : FoC T FN (O - 1) K lc n e0 m fu dp it σ1 σ2) : ∀ q, QuP (NmI T σ1 it 0 m) n c e0 m t w XC p it σ1 σ2 q := by
  have ht := PC_t hP
  have hXC := hP.2.1
  have hd13 := hP.2.2.2.2.1
  have hn := hF.1
  have hK := hF.2.2.2.2.2.1
  have h72 := hF.2.2.2.1.2.2.2.2.1
  intro q
  induction q with
  | zero =>
    intro w' N1 N2 τ1 τ2 hq hj hN1 hN2 n5 o5 f1 f2 hG hI
    have := EI_w hI
    omega
  | succ q ih =>
    intro w' N1 N2 τ1 τ2 hq hj hN1 hN2 n5 o5 f1 f2 hG hI
    have hw6 := EI_w hI
    obtain ⟨e1, e2⟩ := EI_e hI
    have v72 : τ1.1 72 = nI (e0 + m) := hG.1
    have u72 : τ2.1 72 = nI (e0 + m) := (EI_x50 hI).trans v72
    refine T2_suc (fun k => e_quantify_3 k _ _ _) (fun k => e_quantify_3 k _ _ _) ?_
    rw [n5, o5, e1, e2, hN1.1, hN2.1, hN1.2.2, hN2.2.2]
    refine T2_ite Iff.rfl (fun z _ => absurd z (by decide)) (fun _ _ => ?_)
    refine T2_ite Iff.rfl (fun _ _ => ?_) (fun z _ => absurd rfl z)
    refine T2_chk (n_in (by omega) (by omega)) (n_in (by omega) (by omega)) ?_
    rw [n_cl (p := n) (by omega), (FoC_tb hF f1 f2 (a := 7) (by omega) (by omega) (by omega)).1, (FoC_tb hF f1 f2 (a := 7) (by omega) (by omega) (by omega)).2]
    refine T2_od ?_
    have pc : PC T FN (O - 1) 14 (K - m) lc (c + 1) t w' XC τ1 := PC_fi hP h72 (by omega) f1 v72 hO (by omega) (by omega) hw6 (by omega) (by omega) (by omega) (by omega)
    refine T2_ob (b_holds hE1 W7 pc hI rfl rfl) (fun r1 r2 hr => ?_)
    obtain ⟨h12, p1, p2, hr⟩ := hr
    have gg1 : FI (NmI T σ1 it 0 m) e0 σ1 r1.2 := FI_tr f1 (FI_fe p1 v72 (by omega) (by omega))
    have gg2 : FI (NmI T σ1 it 0 m) e0 σ2 r2.2 := FI_tr f2 (FI_fe p2 u72 (by omega) (by omega))
    have hG3 := GIt_fe hG (by omega) p1 p2
    have r72 : r1.2.1 72 = nI (e0 + m) := hG3.1
    have r72' : r2.2.1 72 = nI (e0 + m) := (p2.1 72 (by unfold AlS; omega) (by decide) (by decide) (by decide)).trans u72
    rcases hr with ⟨w2, hw2, hJ⟩ | ⟨z1, z2, z0⟩
    · obtain ⟨q1, q2⟩ := EI_e hJ
      have b4 : T2 (fun k => x_GV k (c + 3) 10 4 N1 r1.2) (fun k => x_GV k (c + 3) 10 4 N2 r2.2) (EQ (178000 + (c + 3)) t w XC σ1 σ2) := by
        exact qu_4 hE0 hO hP hF ih (by omega) (by omega) hN1 hN2 gg1 gg2 hG3 hJ
      refine T2_ite ⟨fun z => h12.symm.trans z, fun z => h12.trans z⟩ (fun _ _ => ?_) (fun _ _ => b4)
      rw [q1, q2]
      refine T2_ite Iff.rfl (fun _ _ => ?_) (fun z _ => absurd rfl z)
      refine T2_suc (fun k => e_quantify_5 k _ _ _) (fun k => e_quantify_5 k _ _ _) ?_
      rw [q1, q2]
      refine T2_ite Iff.rfl (fun _ _ => ?_) (fun z _ => absurd rfl z)
      refine T2_ite (c1 := (1 : Int32) = 0) (c2 := (1 : Int32) = 0) Iff.rfl (fun z _ => absurd z (by decide)) (fun _ _ => ?_)
      refine T2_suc (fun k => e_quantify_6 k _ _ _) (fun k => e_quantify_6 k _ _ _) ?_
      refine T2_suc (fun k => e_quantify_7 k _ _ _) (fun k => e_quantify_7 k _ _ _) ?_
      refine T2_suc (fun k => e_quantify_3 k _ _ _) (fun k => e_quantify_3 k _ _ _) ?_
      refine T2_ite (c1 := (0 : Int32) = 0) (c2 := (0 : Int32) = 0) Iff.rfl (fun _ _ => ?_) (fun z _ => absurd rfl z)
      exact b_qend hF ht (by omega) gg1 gg2 ⟨e0 + m, by omega, by omega, r72⟩ hJ hN1 hN2 rfl
    · have b4 : T2 (fun k => x_GV k (c + 3) 10 4 N1 r1.2) (fun k => x_GV k (c + 3) 10 4 N2 r2.2) (EQ (178000 + (c + 3)) t w XC σ1 σ2) := qu_z4 hF gg1 gg2 (by omega) z1 z2 r72 r72' hN1 hN2
      refine T2_ite ⟨fun z => h12.symm.trans z, fun z => h12.trans z⟩ (fun _ _ => ?_) (fun _ _ => b4)
      exact T2_ite ⟨fun z => absurd z (EZ_e z1), fun z => absurd z (EZ_e z2)⟩ (fun z _ => absurd z (EZ_e z1)) (fun _ _ => b4)
/-- a quantifier -/
theorem b_quant {f0 : Nat} (hE0 : PE T FN c) (hE1 : PE T FN (c + 1)) (hn : (1 ≤ n ∧ n < LNo T % 70001)) (hO : 1 ≤ O) (hm : 1 ≤ m) (hmK : m ≤ K) (W6 : WN T FN f0 4 (O - 1) m K lc (T 6 n)) (W7 : WN T FN f0 0 (O - 1) 14 (K - m) lc (T 7 n)) (hP : PC T FN O r K lc (c + 5) t w XC σ1) (hI : EI t w XC σ1 σ2) {L1 L2 : Nat → Int32} (d1 : L1 1 = nI n) (d2 : L2 1 = nI n) : T2 (fun k => x_GV k (c + 3) 10 0 L1 σ1) (fun k => x_GV k (c + 3) 10 0 L2 σ2) (EQ (178000 + (c + 3)) t w XC σ1 σ2) := by
  obtain ⟨e0, fu, dp, it, hF⟩ := FoC_of hn hm hmK W6 hP hI
  have ht := PC_t hP
  have hw6 := EI_w hI
  have hXC := hP.2.1
  have hK := hF.2.2.2.2.2.1
  have h72 := hF.2.2.2.1.2.2.2.2.1
  have h72' := hF.2.2.2.2.1.1.2.2.2.2.1
  have b2 : ∀ (p : Int32) (N1 N2 : Nat → Int32), N1 1 = nI n → N2 1 = nI n → N1 2 = nI e0 → N2 2 = nI e0 → N1 100 = p → N2 100 = p → T2 (fun k => x_GV k (c + 3) 10 2 N1 σ1) (fun k => x_GV k (c + 3) 10 2 N2 σ2) (EQ (178000 + (c + 3)) t w XC σ1 σ2) := by
    intro p N1 N2 n1 o1 n2 o2 n100 o100
    refine T2_suc (fun k => e_quantify_2 k _ _ _) (fun k => e_quantify_2 k _ _ _) ?_
    rw [n1, o1]
    refine T2_chk (n_in (by omega) (by omega)) (n_in (by omega) (by omega)) ?_
    rw [n_cl (p := n) (by omega), hF.2.1.1 6 _ (by omega) (by omega) (by omega), hF.2.2.1.1 6 _ (by omega) (by omega) (by omega)]
    refine T2_od ?_
    refine T2_ob (b_goOn (N := NmI T σ1 it 0 m) (x := 1) (j0 := 0) (t := t) (w := w) hE0 hO hP h72 hK.1 hF.2.2.1 hm hF.2.2.2.2.2.2.2.1 (fun j hj a i z => ⟨j, Nat.zero_le _, hj, z⟩) (by omega) (Nat.le_refl _) (by omega) (Nat.zero_le _) (Or.inr ⟨rfl, hm⟩) FI_rf FI_rf ⟨h72, fun i hi => absurd hi (Nat.not_lt_zero i)⟩ hI (by exact n2) (by exact o2) (by exact hF.2.2.2.2.2.2.2.2) (by exact hF.2.2.2.2.2.2.2.2) rfl rfl) (fun r1 r2 hr => ?_)
    exact qu_ent (q := 60000) (p := p) ht hF (qu_loop hE0 hE1 hO W7 hP hF 60000) (by omega) (by omega) hr ⟨n1, n2, n100⟩ ⟨o1, o2, o100⟩ rfl rfl rfl
  refine T2_suc (fun k => e_quantify_0 k _ _ _) (fun k => e_quantify_0 k _ _ _) ?_
  rw [d1, d2, h72, h72']
  refine T2_chk (n_in (by omega) (by omega)) (n_in (by omega) (by omega)) ?_
  rw [n_cl (p := n) (by omega), hF.2.1.1 5 _ (by omega) (by omega) (by omega), hF.2.2.1.1 5 _ (by omega) (by omega) (by omega)]
  refine T2_ite Iff.rfl (fun _ _ => b2 1 _ _ d1 d2 rfl rfl rfl rfl) (fun _ _ => ?_)
  refine T2_suc (fun k => e_quantify_1 k _ _ _) (fun k => e_quantify_1 k _ _ _) ?_
  exact b2 0 _ _ d1 d2 rfl rfl rfl rfl
end EQU
