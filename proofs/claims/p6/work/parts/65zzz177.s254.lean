/-! Statements on both sides (reference): points, ifs. -/
/-- branches of an if -/
def BrL (T : Nat → Nat → Int32) (FN : Nat → Nat → Prop) (S : Nat → Nat → Nat → Nat → Prop) (un d v n : Nat) : Nat → Int32 → Prop
  | 0, x => x = -1
  | q + 1, x => ∃ e, x = nI e ∧ (1 ≤ e ∧ e < LNo T % 70001) ∧ (T 5 e = -2 ∨ T 5 e = -3 ∨ Wx0 T FN (lcU un T) (T 5 e)) ∧ BdE T S un d v n (T 6 e) ∧ BrL T FN S un d v n q (T 9 e)
/-- iterators are good on both sides -/
theorem ItS_ei {t w XC q : Nat} {σ1 σ2 : MS} (hE : EI t w XC σ1 σ2) (h3 : σ1.2.2 30 3 = nI q) (hq : q ≤ 3100) (h : ItS σ1 q) : ItS σ2 q := by
  obtain ⟨g1, l1, B1, h1, X1, g2, l2, B2, h2, X2, n1, n2, hR, _⟩ := hE
  intro i hi
  have st : StI (σ1.2.2 30) 0 (5314 + i) := by
    unfold StI
    rw [show (0 + 3) = 3 from rfl, h3, n_cl (p := q) (by omega)]; omega
  obtain ⟨m, m', e1, v1, e2, v2, ev, b1, b2⟩ := hR.1 30 (5314 + i) (Or.inr (Or.inl ⟨rfl, st⟩)) (by unfold VwR; omega)
  have k := hR.2.1 30 (8414 + i) (by unfold AlR; omega) (by unfold Zn; omega) (InA_it h3 (by omega) (by omega))
  have e : szV σ2 30 (5314 + i) = szV σ1 30 (5314 + i) := by
    unfold szV
    rw [e1, e2, n_cl (p := m) (by omega), n_cl (p := m') (by omega), (EVb_sz ev).1, (EVb_sz ev).2.2]
    rcases EVb_3 ev with ⟨z, y⟩ | ⟨z, y⟩
    · rw [y, if_pos z, if_pos z]
    · rw [if_neg (by omega), if_neg (by omega), EVb_hd ev z (i := 1) (by omega)]
  rw [e, ← k]; exact h i hi
/-- a point more -/
theorem PtQ_mp {T : Nat → Nat → Int32} {S : Nat → Nat → Nat → Nat → Prop} {P c un d v n : Nat} {F : List Nat} {τ ρ : MS} (hM : Mpt P τ ρ) (hP : τ.1 63 = nI P) (h20 : P < 20) (hQ : PtQ T S τ) (hl : F.length ≤ 1020) (hPos : Pos T S c un d v n F τ) (h0 : τ.2.2 30 0 = nI n) (hk : T 4 n = 44 ∨ T 4 n = 46) : PtQ T S ρ := by
  obtain ⟨a1, a2, a3, a4, a5, a6, a7, a8, a9⟩ := hM
  intro p hp
  rw [a9, n_cl (p := P + 1) (by omega)] at hp
  by_cases e : p = P
  · subst e
    obtain ⟨h1, h2, h3, h4, h5, h6, h7⟩ := hPos
    exact ⟨c, un, d, v, n, F, PlA_c (A := τ.2.2 30) ⟨h1, h2, h3, h4, h5, h6, by omega⟩ (fun i hi => a4 i (by omega)), (a4 0 (by omega)).trans h0, hk⟩
  · obtain ⟨c, un, d, v, n, F, h1, h2, h3⟩ := hQ p (by rw [hP, n_cl (p := P) (by omega)]; omega)
    exact ⟨c, un, d, v, n, F, PlA_c h1 (fun i hi => a5 _ (by omega)), (a5 _ (by omega)).trans h2, h3⟩
section DEC
variable {T : Nat → Nat → Int32} {FN : Nat → Nat → Prop} {S : Nat → Nat → Nat → Nat → Prop} {t w XC : Nat} {σ1 σ2 : MS}
/-- a point is made, or error 6 -/
theorem E_makePoint (hW : SWf T FN S) (hXC : XC ≤ 401000) {c un d v n w' : Nat} (ht : t + 9 + KBn T ≤ w' + 17000) {F : List Nat} {τ1 τ2 : MS} (hk : T 4 n = 44 ∨ T 4 n = 46) (hM : Mid T FN S t w' XC σ1 σ2 τ1 τ2) (hP : Pos T S c un d v n F τ1) {L1 L2 : Nat → Int32} (d1 : L1 1 = nI n) (d2 : L2 1 = nI n) : T2 (fun k => x_makePoint k 0 L1 τ1) (fun k => x_makePoint k 0 L2 τ2) (fun r1 r2 => (Mid T FN S t w' XC σ1 σ2 r1.2 r2.2 ∧ Pos T S c un d v n F r1.2) ∨ ((UT r1.2 ∧ UT r2.2 ∧ Bs T FN r1.2 ∧ Bs T FN r2.2 ∧ ∀ j, j = 103 ∨ j = 104 ∨ j = 110 ∨ j = 68 → r1.2.1 j = σ1.1 j ∧ r2.2.1 j = σ2.1 j) ∧ EZ t 179400 r1.2 ∧ EZ t 179400 r2.2)) := by
  obtain ⟨hE, U1, U2, B1, B2, kp⟩ := id hM
  have w6 := EI_w hE
  have al : ∀ j, AlS j → τ2.1 j = τ1.1 j := fun j hj => by
    obtain ⟨g1, l1, B1, h1, X1, g2, l2, B2, h2, X2, _, _, hR, _⟩ := hE
    exact (hR.2.2.1 j hj).symm
  obtain ⟨h64, P, h63, hP20, h65, _, hl, _⟩ := id U1
  obtain ⟨k64, P', k63, hP20', k65, _, kl, _⟩ := id U2
  have eS : StS τ2 = StS τ1 := (n_eq (by omega) (by omega)).mp (k64.symm.trans ((al 64 (by unfold AlS; omega)).trans h64))
  have eP : P' = P := (n_eq (by omega) (by omega)).mp (k63.symm.trans ((al 63 (by unfold AlS; omega)).trans h63))
  subst eP
  have eR : suN (PtS τ2) P' = suN (PtS τ1) P' := (n_eq (by omega) (by omega)).mp (k65.symm.trans ((al 65 (by unfold AlS; omega)).trans h65))
  have fail : ∀ (N1 N2 : Nat → Int32), T2 (fun k => x_makePoint k 1 N1 τ1) (fun k => x_makePoint k 1 N2 τ2) (fun r1 r2 => (Mid T FN S t w' XC σ1 σ2 r1.2 r2.2 ∧ Pos T S c un d v n F r1.2) ∨ ((UT r1.2 ∧ UT r2.2 ∧ Bs T FN r1.2 ∧ Bs T FN r2.2 ∧ ∀ j, j = 103 ∨ j = 104 ∨ j = 110 ∨ j = 68 → r1.2.1 j = σ1.1 j ∧ r2.2.1 j = σ2.1 j) ∧ EZ t 179400 r1.2 ∧ EZ t 179400 r2.2)) := by
    intro N1 N2
    refine T2_suc (fun k => by rw [x_makePoint]) (fun k => by rw [x_makePoint]) ?_
    refine T2_ob (T2_t (s_fail _ _) (s_fail _ _)) (fun y z hy => ?_)
    rw [hy.1, hy.2]
    obtain ⟨z1, z2⟩ := E_er (a := t) (b := 179400) (e := 6) (by omega) hE (by omega) (by decide) (Nat.le_refl _) (by omega)
    exact T2_some (Or.inr ⟨⟨UT_fe FE_er U1, UT_fe FE_er U2, Bs_fc (I := fun _ => False) B1 (FC_fe FE_er), Bs_fc (I := fun _ => False) B2 (FC_fe FE_er), kp_fc (I := fun _ => False) kp.1 (FC_fe FE_er) (FC_fe FE_er)⟩, z1, z2⟩)
  refine T2_suc (fun k => by rw [x_makePoint]) (fun k => by rw [x_makePoint]) ?_
  rw [h63, k63]
  refine T2_ite Iff.rfl (fun _ _ => fail _ _) (fun nP _ => ?_)
  have hlt : P' < 20 := by
    have : P' ≠ 20 := fun e => nP (by rw [e]; rfl)
    omega
  have ar : τ1.1 64 + τ1.1 65 + τ1.1 64 = nI (StS τ1 + suN (PtS τ1) P' + StS τ1) := by rw [h64, h65, n_add (by omega), n_add (by omega)]
  have ar2 : τ2.1 64 + τ2.1 65 + τ2.1 64 = nI (StS τ1 + suN (PtS τ1) P' + StS τ1) := by
    rw [al 64 (by unfold AlS; omega), al 65 (by unfold AlS; omega)]; exact ar
  rw [ar, ar2]
  refine T2_ite Iff.rfl (fun le _ => ?_) (fun _ _ => fail _ _)
  have le := (n_le (q := 40000) (by omega) (by decide)).mp le
  refine T2_suc (fun k => by rw [x_makePoint]) (fun k => by rw [x_makePoint]) ?_
  rw [d1, d2]
  refine T2_chk (by decide) (by decide) ?_
  rw [show (0 : Int32).toNatClampNeg = 0 from by decide]
  show T2 (fun k => x_makePoint k 3 L1 (mAr τ1 30 0 (nI n))) (fun k => x_makePoint k 3 L2 (mAr τ2 30 0 (nI n))) _
  have hM0 := Mid_0 (x := nI n) hM
  have hP0 := Pos_0 hW (x := nI n) hP
  have s0 : ∀ τ : MS, UT τ → UT (mAr τ 30 0 (nI n)) → StS (mAr τ 30 0 (nI n)) = StS τ ∧ ∀ p, PtS (mAr τ 30 0 (nI n)) p = PtS τ p := fun τ u1 u2 => by
    refine ⟨?_, fun p => by unfold PtS; rw [kC_r (σ := τ) (ρ := mAr τ 30 0 (nI n)) (mAr_o (by decide)) (mAr_o (by decide)) rfl, mAr_o (by decide), mAr_o (by decide)]⟩
    have a := u1.1
    have b := u2.1
    obtain ⟨_, _, _, _, _, _, l1, _⟩ := u1
    obtain ⟨_, _, _, _, _, _, l2, _⟩ := u2
    exact (n_eq (by omega) (by omega)).mp (b.symm.trans a)
  have z0 : (mAr τ1 30 0 (nI n)).2.2 30 0 = nI n := by rw [mAr_s, upd_same]
  have z63 : (mAr τ1 30 0 (nI n)).1 63 = nI P' := h63
  have y63 : (mAr τ2 30 0 (nI n)).1 63 = nI P' := k63
  obtain ⟨q1, q2⟩ := s0 τ1 U1 hM0.2.1
  obtain ⟨q3, q4⟩ := s0 τ2 U2 hM0.2.2.1
  generalize mAr τ1 30 0 (nI n) = ν1 at *
  generalize mAr τ2 30 0 (nI n) = ν2 at *
  refine T2_suc (fun k => by rw [x_makePoint]) (fun k => by rw [x_makePoint]) ?_
  have cp0 : ∀ ν : MS, CpT P' 0 ν ν := fun ν => ⟨rfl, rfl, fun _ _ => rfl, fun j hj => by omega, fun _ _ => rfl⟩
  refine T2_mono (T2_t (s_copy z63 hlt 11514 0 ν1 _ (by omega) (cp0 ν1) rfl) (s_copy y63 hlt 11514 0 ν2 _ (by omega) (cp0 ν2) rfl)) (fun r1 r2 hr => ?_)
  obtain ⟨⟨_, m1⟩, ⟨_, m2⟩⟩ := hr
  have sum1 : suN (PtS ν1) P' = suN (PtS τ1) P' := suN_c (fun p _ => q2 p)
  have sum2 : suN (PtS ν2) P' = suN (PtS τ1) P' := (suN_c (fun p _ => q4 p)).trans eR
  obtain ⟨_, _, _, _, bq⟩ := Pos_b hW hP0
  have W1 := UT_mp hM0.2.1 z63 hlt m1 (by rw [q1, sum1]; exact le) hP0.2.2.2.2.2.1 (by omega) hP0.2.2.2.2.2.2
  have W2 := UT_mp hM0.2.2.1 y63 hlt m2 (by rw [q3, sum2, eS]; exact le) ((EI_30 hM0.1 (by unfold Zn; omega) (InA_4 (by omega))).trans hP0.2.2.2.2.2.1) (by omega) (ItS_ei hM0.1 hP0.2.2.2.2.2.1 (by omega) hP0.2.2.2.2.2.2)
  have bs : ∀ (ν ρ : MS), Mpt P' ν ρ → Bs T FN ν → Bs T FN ρ := fun ν ρ m b => by
    obtain ⟨a1, a2, a3, _⟩ := m
    obtain ⟨b0, b2, b3, b4, b5, b6, b7⟩ := b
    exact ⟨STb_b b0 (fun j hj => a1 j (by omega) (by omega)) (fun a i q => by rw [a3 a (by omega) (by omega)]), fun a i h1 h2 h3 => by rw [a3 a (by omega) (by omega)]; exact b2 a i h1 h2 h3, (a1 67 (by decide) (by decide)).trans b3, (a1 97 (by decide) (by decide)).trans b4, (a1 72 (by decide) (by decide)).trans b5, (a1 69 (by decide) (by decide)).trans b6, fun i => (congrFun (kC_r (a3 20 (by decide) (by decide)) (a3 21 (by decide) (by decide)) (a1 30 (by decide) (by decide))) i).trans (b7 i)⟩
  refine Or.inl ⟨⟨EI_mp hM0.1 z63 hlt m1 m2, W1, W2, bs _ _ m1 hM0.2.2.2.1, bs _ _ m2 hM0.2.2.2.2.1, fun j hj => ?_, PtQ_mp m1 z63 hlt hM0.2.2.2.2.2.2.1 (Pos_b hW hP0).2.2.2.1 hP0 z0 hk, ⟨hM0.2.2.2.2.2.2.2.choose, (m1.1 106 (by decide) (by decide)).trans hM0.2.2.2.2.2.2.2.choose_spec.1, hM0.2.2.2.2.2.2.2.choose_spec.2⟩⟩, ?_⟩
  · have := hM0.2.2.2.2.2.1 j hj
    exact ⟨(m1.1 j (by omega) (by omega)).trans this.1, (m2.1 j (by omega) (by omega)).trans this.2⟩
  · obtain ⟨_, _, _, b3, b4⟩ := Pos_b hW hP0
    obtain ⟨g1, g2, g3, g4, g5, g6, g7⟩ := hP0
    have r30 : r1.2.2.2 30 = ν1.2.2 30 := m1.2.2.1 30 (by decide) (by decide)
    exact ⟨g1, by rw [r30]; exact g2, by rw [r30]; exact g3, by rw [r30]; exact g4, by rw [r30]; exact g5, by rw [r30]; exact g6, ItS_c (σ := ν1) (by omega) (m1.2.2.1 28 (by decide) (by decide)) (fun i _ => by rw [r30]) g7⟩
/-- an if is decided -/
theorem E_decide (hW : SWf T FN S) (hXC : XC ≤ 401000) (ht : t + 9 + KBn T ≤ w + 17000) {c un d v n : Nat} {F : List Nat} (hk : T 4 n = 46) : ∀ (q w' : Nat) (x : Int32) (τ1 τ2 : MS) (N1 N2 : Nat → Int32), w ≤ w' → Mid T FN S t w' XC σ1 σ2 τ1 τ2 → Pos T S c un d v n F τ1 → BrL T FN S un d v n q x → N1 1 = nI n → N2 1 = nI n → N1 3 = x → N2 3 = x → T2 (fun k => x_decide k 1 N1 τ1) (fun k => x_decide k 1 N2 τ2) (fun r1 r2 => OuQ T FN S t w XC σ1 σ2 r1.2 r2.2) := by
  intro q
  induction q with
  | zero =>
    intro w' x τ1 τ2 N1 N2 hw hM hP hL n1 o1 n3 o3
    have hL : x = -1 := hL
    refine T2_suc (fun k => by rw [x_decide]) (fun k => by rw [x_decide]) ?_
    rw [n3, o3, hL]
    refine T2_ite Iff.rfl (fun _ _ => ?_) (fun z _ => absurd rfl z)
    refine T2_suc (fun k => by rw [x_decide]) (fun k => by rw [x_decide]) ?_
    exact T2_ob (E_pass hW hXC ht hw hM hP (by exact n1) (by exact o1)) (fun r1 r2 hr => T2_some hr)
  | succ q ih =>
    intro w' x τ1 τ2 N1 N2 hw hM hP hL n1 o1 n3 o3
    obtain ⟨e, xe, he, h5, h6, hL⟩ := hL
    obtain ⟨hE, U1, U2, B1, B2, kp⟩ := id hM
    have w6 := EI_w hE
    obtain ⟨e1, e2⟩ := EI_e hE
    have hSc := Pos_sc B1 hP
    -- block 6
    have six : ∀ (h : Int32) (w2 : Nat) (ρ1 ρ2 : MS) (K1 K2 : Nat → Int32), w ≤ w2 → Mid T FN S t w2 XC σ1 σ2 ρ1 ρ2 → Pos T S c un d v n F ρ1 → K1 1 = nI n → K2 1 = nI n → K1 3 = nI e → K2 3 = nI e → K1 4 = h → K2 4 = h → T2 (fun k => x_decide k 5 K1 ρ1) (fun k => x_decide k 5 K2 ρ2) (fun r1 r2 => OuQ T FN S t w XC σ1 σ2 r1.2 r2.2) := by
      intro h w2 ρ1 ρ2 K1 K2 hw2 hK hPk k1 l1 k3 l3 k4 l4
      obtain ⟨x1, x2⟩ := EI_e hK.1
      have C1 := hK.2.2.2.1
      have C2 := hK.2.2.2.2.1
      refine T2_suc (fun k => by rw [x_decide]) (fun k => by rw [x_decide]) ?_
      rw [x1, x2]
      refine T2_ite Iff.rfl (fun _ _ => ?_) (fun z _ => absurd (by decide) z)
      refine T2_suc (fun k => by rw [x_decide]) (fun k => by rw [x_decide]) ?_
      rw [k4, l4]
      refine T2_ite Iff.rfl (fun _ _ => ?_) (fun _ _ => ?_)
      · refine T2_suc (fun k => by rw [x_decide]) (fun k => by rw [x_decide]) ?_
        rw [k3, l3]
        refine T2_chk (n_in (by omega) (by omega)) (n_in (by omega) (by omega)) ?_
        rw [n_cl (p := e) (by omega), C1.1.1 9 _ (by omega) (by omega) (by omega), C2.1.1 9 _ (by omega) (by omega) (by omega)]
        exact ih w2 (T 9 e) ρ1 ρ2 _ _ hw2 hK hPk hL k1 l1 rfl rfl
      · rw [k3, l3]
        refine T2_chk (n_in (by omega) (by omega)) (n_in (by omega) (by omega)) ?_
        obtain ⟨hIn, hy⟩ := Pos_bd hW hPk (Or.inl hk) h6
        refine T2_ob (E_enter hW hXC ht hw2 hK hIn hy ?_ ?_ (by exact k1) (by exact l1)) (fun s1 s2 hs => T2_some hs)
        · show ρ1.2.2 6 (nI e).toNatClampNeg = _
          rw [n_cl (p := e) (by omega), C1.1.1 6 _ (by omega) (by omega) (by omega)]
        · show ρ2.2.2 6 (nI e).toNatClampNeg = _
          rw [n_cl (p := e) (by omega), C2.1.1 6 _ (by omega) (by omega) (by omega)]
    have fiveZ : ∀ (ρ1 ρ2 : MS) (K1 K2 : Nat → Int32), OuQ T FN S t w XC σ1 σ2 ρ1 ρ2 → EZ t 179400 ρ1 → EZ t 179400 ρ2 → T2 (fun k => x_decide k 5 K1 ρ1) (fun k => x_decide k 5 K2 ρ2) (fun r1 r2 => OuQ T FN S t w XC σ1 σ2 r1.2 r2.2) := by
      intro ρ1 ρ2 K1 K2 h z1 z2
      refine T2_suc (fun k => by rw [x_decide]) (fun k => by rw [x_decide]) ?_
      refine T2_ite ⟨fun z => absurd z (EZ_le z1), fun z => absurd z (EZ_le z2)⟩ (fun z _ => absurd z (EZ_le z1)) (fun _ _ => ?_)
      exact T2_some h
    have three : ∀ (h : Int32) (K1 K2 : Nat → Int32), (h = 0 ↔ ¬ T 5 e = -2) → K1 1 = nI n → K2 1 = nI n → K1 3 = nI e → K2 3 = nI e → K1 100 = h → K2 100 = h → T2 (fun k => x_decide k 3 K1 τ1) (fun k => x_decide k 3 K2 τ2) (fun r1 r2 => OuQ T FN S t w XC σ1 σ2 r1.2 r2.2) := by
      intro h K1 K2 hh k1 l1 k3 l3 k100 l100
      refine T2_suc (fun k => by rw [x_decide]) (fun k => by rw [x_decide]) ?_
      rw [k3, l3, k1, l1, k100, l100]
      refine T2_chk (n_in (by omega) (by omega)) (n_in (by omega) (by omega)) ?_
      rw [n_cl (p := e) (by omega), B1.1.1 5 _ (by omega) (by omega) (by omega), B2.1.1 5 _ (by omega) (by omega) (by omega)]
      refine T2_ite Iff.rfl (fun _ _ => ?_) (fun n3' _ => ?_)
      · refine T2_ob (E_makePoint hW hXC (by omega) (Or.inr hk) hM hP rfl rfl) (fun r1 r2 hr => ?_)
        rcases hr with ⟨hK, hPk⟩ | ⟨hz, z1, z2⟩
        · exact six 1 w' _ _ _ _ hw hK hPk k1 l1 k3 l3 rfl rfl
        · exact fiveZ _ _ _ _ (Or.inr ⟨hz, z1, z2⟩) z1 z2
      · refine T2_suc (fun k => by rw [x_decide]) (fun k => by rw [x_decide]) ?_
        show T2 (fun k => if h = 0 then _ else _) (fun k => if h = 0 then _ else _) _
        refine T2_ite Iff.rfl (fun h0 _ => ?_) (fun _ _ => six h w' τ1 τ2 _ _ hw hM hP k1 l1 k3 l3 rfl rfl)
        have w5 : Wx0 T FN (lcU un T) (T 5 e) := by
          rcases h5 with z | z | z
          · exact absurd z (hh.mp h0)
          · exact absurd z n3'
          · exact z
        show T2 (fun k => if ¬ (K1 3 < 0 ∨ 70000 ≤ (K1 3).toNatClampNeg) then ob (x_holds k 0 (upd (fun _ => 0) 1 (τ1.2.2 5 (K1 3).toNatClampNeg)) τ1) _ else _) (fun k => if ¬ (K2 3 < 0 ∨ 70000 ≤ (K2 3).toNatClampNeg) then ob (x_holds k 0 (upd (fun _ => 0) 1 (τ2.2.2 5 (K2 3).toNatClampNeg)) τ2) _ else _) _
        rw [k3, l3]
        refine T2_chk (n_in (by omega) (by omega)) (n_in (by omega) (by omega)) ?_
        rw [n_cl (p := e) (by omega), B1.1.1 5 _ (by omega) (by omega) (by omega), B2.1.1 5 _ (by omega) (by omega) (by omega)]
        refine T2_ob (E_hold (by omega) (by omega) hSc.1 w5 hE rfl rfl) (fun r1 r2 hr => ?_)
        obtain ⟨a1, f1, f2, a4⟩ := hr
        rcases a4 with ⟨w2, hw2, hJ⟩ | ⟨z1, z2, _⟩
        · exact six r1.1 w2 r1.2 r2.2 _ _ (Nat.le_trans hw hw2) (Mid_fc (I := fun _ => False) hM (FC_fe f1) (FC_fe f2) hJ (UT_fe f1 U1) (UT_fe f2 U2)) (Pos_fs hW (FS_fe f1) hP) k1 l1 k3 l3 rfl a1.symm
        · have y1 := EZ_mo z1 (Nat.le_refl _) (show 179300 ≤ 179400 by omega)
          have y2 := EZ_mo z2 (Nat.le_refl _) (show 179300 ≤ 179400 by omega)
          exact fiveZ _ _ _ _ (OuQ_z (I := fun _ => False) hM (FC_fe f1) (FC_fe f2) (UT_fe f1 U1) (UT_fe f2 U2) (by omega) z1 z2) y1 y2
    refine T2_suc (fun k => by rw [x_decide]) (fun k => by rw [x_decide]) ?_
    rw [n3, o3, xe, e1, e2]
    refine T2_ite Iff.rfl (fun z _ => absurd z (ne_m1 he)) (fun _ _ => ?_)
    refine T2_ite Iff.rfl (fun _ _ => ?_) (fun z _ => absurd rfl z)
    refine T2_chk (n_in (by omega) (by omega)) (n_in (by omega) (by omega)) ?_
    rw [n_cl (p := e) (by omega), B1.1.1 5 _ (by omega) (by omega) (by omega), B2.1.1 5 _ (by omega) (by omega) (by omega)]
    refine T2_ite Iff.rfl (fun z _ => ?_) (fun z _ => ?_)
    · exact three 1 _ _ ⟨fun y => absurd y (by decide), fun y => absurd z y⟩ n1 o1 (n3.trans xe) (o3.trans xe) rfl rfl
    · refine T2_suc (fun k => by rw [x_decide]) (fun k => by rw [x_decide]) ?_
      exact three 0 _ _ ⟨fun _ => z, fun _ => rfl⟩ n1 o1 (n3.trans xe) (o3.trans xe) rfl rfl
end DEC
