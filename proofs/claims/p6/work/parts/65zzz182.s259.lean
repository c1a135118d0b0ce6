/-! Statements on both sides (reference): a call is begun. -/
theorem suN_bd {f : Nat → Nat} {b : Nat} : ∀ {n : Nat}, (∀ i, i < n → f i ≤ b) → suN f n ≤ b * n
  | 0, _ => Nat.zero_le _
  | n + 1, h => by
    have a := suN_bd (f := f) (b := b) (n := n) (fun i hi => h i (by omega))
    have c := h n (by omega)
    have e : b * (n + 1) = b * n + b := Nat.mul_succ b n
    show suN f n + f n ≤ _
    omega
section LVC
variable {T : Nat → Nat → Int32} {S : Nat → Nat → Nat → Nat → Prop} {A A' : Nat → Int32}
theorem LVs_cc : ∀ {c un d v n : Nat} {F : List Nat}, (∀ i, 64 ≤ i → i < 64 + 3 * c → A' i = A i) → LVs T S A c un d v n F → LVs T S A' c un d v n F := by
  intro c
  induction c with
  | zero => intro un d v n F _ h; exact h
  | succ c ih =>
    intro un d v n F ha h
    obtain ⟨hS, pr, un0, d0, v0, n0, F0, h1, h2, h3, h4, h5, h6, h7, h8, h9⟩ := h
    exact ⟨hS, pr, un0, d0, v0, n0, F0, h1, h2, by rw [ha _ (by omega) (by omega)]; exact h3, by rw [ha _ (by omega) (by omega)]; exact h4, by rw [ha _ (by omega) (by omega)]; exact h5, h6, h7, h8, ih (fun i a b => ha i a (by omega)) h9⟩
end LVC
section BCL
variable {T : Nat → Nat → Int32} {FN : Nat → Nat → Prop} {S : Nat → Nat → Nat → Nat → Prop} {t w XC : Nat} {τ1 τ2 σ1 σ2 : MS}
/-- behind the arguments -/
theorem E_call4 (hW : SWf T FN S) (hXC : XC ≤ 401000) (ht : t + 9 + KBn T ≤ w + 17000) {c un d v n w2 pr np ns : Nat} {F : List Nat} {ρ1 ρ2 : MS} (hw : w ≤ w2) (hM : Mid T FN S (t + np) w2 XC σ1 σ2 ρ1 ρ2) (hP : Pos T S c un d v n F ρ1) (hk : T 4 n = 45) (y1 : pr < CNo T % 42) (y2 : T 7 n = nI pr) (y3 : T 18 pr = nI np) (y4 : np ≤ 8) (y5 : T 21 (1 + pr) = nI ns) (y6 : ns ≤ 60) (y7 : ∀ s, ns ≤ s → s < 60 → T 20 (60 * (1 + pr) + s) = 0) (hpf : ∀ i, i < np → ¬ T 20 (60 * (1 + pr) + i) = 0) (h17 : T 17 pr = -1 ∨ ∃ b v', T 17 pr = nI b ∧ S (1 + pr) 0 v' b) {N1 N2 : Nat → Int32} (n1 : N1 1 = nI n) (o1 : N2 1 = nI n) (n2 : N1 2 = nI pr) (o2 : N2 2 = nI pr) (n3 : N1 3 = nI t) (o3 : N2 3 = nI t) : T2 (fun k => x_beginCall k 4 N1 ρ1) (fun k => x_beginCall k 4 N2 ρ2) (fun r1 r2 => OuQ T FN S t w XC σ1 σ2 r1.2 r2.2) := by
  obtain ⟨hE, U1, U2, B1, B2, kp⟩ := id hM
  have w6 := EI_w hE
  obtain ⟨_, _, ⟨n7, _, _⟩, pb3, pb4⟩ := Pos_b hW hP
  obtain ⟨hc5, hc, hLV, h2, hF, h3, hIt⟩ := id hP
  obtain ⟨e1, e2⟩ := EI_e hE
  obtain ⟨bb1, bb2⟩ := EI_B hE
  have k1 : ρ2.2.2 30 1 = nI c := (EI_30 hE (by unfold Zn; omega) (InA_4 (by omega))).trans hc
  have k2 : ρ2.2.2 30 2 = nI F.length := (EI_30 hE (by unfold Zn; omega) (InA_4 (by omega))).trans h2
  have hE0 := hE
  obtain ⟨g1, l1, D1, hh1, X1, g2, l2, D2, hh2, X2, m1, m2, hR, _⟩ := hE0
  have al := hR.2.2.1
  obtain ⟨u64, P, u63, hP20, u65, _, ul, _⟩ := id U1
  obtain ⟨v64, P', v63, hP20', v65, _, vl, _⟩ := id U2
  have eS : StS ρ2 = StS ρ1 := (n_eq (by omega) (by omega)).mp (v64.symm.trans ((al 64 (by unfold AlS; omega)).symm.trans u64))
  have eP : P' = P := (n_eq (by omega) (by omega)).mp (v63.symm.trans ((al 63 (by unfold AlS; omega)).symm.trans u63))
  subst eP
  have eR : suN (PtS ρ2) P' = suN (PtS ρ1) P' := (n_eq (by omega) (by omega)).mp (v65.symm.trans ((al 65 (by unfold AlS; omega)).symm.trans u65))
  -- what lies upon the pile
  have val : ∀ i, i < np → ∃ va vb, ρ1.2.2 29 (t + i) = nI va ∧ (va < 3 ∨ g1 va) ∧ ρ2.2.2 29 (t + i) = nI vb ∧ (vb < 3 ∨ g2 vb) ∧ szN (ρ2.2.2 28) vb = szN (ρ1.2.2 28) va ∧ va < 1740000 ∧ vb < 1740000 := fun i hi => by
    obtain ⟨va, vb, a1, a2, a3, a4, a5, a6, a7⟩ := hR.1 29 (t + i) (Or.inl ⟨rfl, by omega⟩) (by unfold VwR; omega)
    exact ⟨va, vb, a1, a2, a3, a4, (EVb_sz a5).1, a6, a7⟩
  have r20 : kC ρ1 = T 20 := funext B1.2.2.2.2.2.2
  have s20 : kC ρ2 = T 20 := funext B2.2.2.2.2.2.2
  have nE : ∀ i, nwS ρ2 pr np t i = nwS ρ1 pr np t i := fun i => by
    unfold nwS
    rw [r20, s20]
    by_cases z : T 20 (60 * (1 + pr) + i) = 0
    · rw [if_pos z, if_pos z]
    · rw [if_neg z, if_neg z]
      by_cases y : i < np
      · obtain ⟨va, vb, a1, a2, a3, a4, a5, a6, a7⟩ := val i y
        rw [if_pos y, if_pos y, a1, a3, n_cl (p := va) (by omega), n_cl (p := vb) (by omega), a5]
      · rw [if_neg y, if_neg y]
  have nB : ∀ i, nwS ρ1 pr np t i ≤ 1000 := fun i => by
    unfold nwS
    by_cases z : kC ρ1 (60 * (1 + pr) + i) = 0
    · rw [if_pos z]; omega
    · rw [if_neg z]
      by_cases y : i < np
      · obtain ⟨va, vb, a1, a2, a3, a4, a5, a6, a7⟩ := val i y
        have := szN_b m1.1 a2
        rw [if_pos y, a1, n_cl (p := va) (by omega)]; omega
      · rw [if_neg y]; omega
  have sB : ∀ i, suN (nwS ρ1 pr np t) i ≤ 1000 * i := fun i => suN_bd (fun j _ => nB j)
  have sE : ∀ i, suN (nwS ρ2 pr np t) i = suN (nwS ρ1 pr np t) i := fun i => suN_c (fun j _ => nE j)
  have s60 : suN (nwS ρ1 pr np t) 60 = suN (nwS ρ1 pr np t) ns := suN_ex y6 (fun j h1 h2 => by
    unfold nwS; rw [r20, if_pos (y7 j h1 h2)])
  have e1p : (1 : Int32) + nI pr = nI (1 + pr) := n_add (p := 1) (by omega)
  have e60 : (60 : Int32) * nI (1 + pr) = nI (60 * (1 + pr)) := n_mulN 60 (1 + pr)
  refine T2_suc (fun k => by rw [x_beginCall]) (fun k => by rw [x_beginCall]) ?_
  rw [e1, e2]
  refine T2_ite Iff.rfl (fun _ _ => ?_) (fun z _ => absurd (by decide) z)
  refine T2_suc (fun k => by rw [x_beginCall]) (fun k => by rw [x_beginCall]) ?_
  refine T2_chk (by decide) (by decide) ?_
  rw [show (1 : Int32).toNatClampNeg = 1 from by decide, hc, k1]
  refine T2_ite Iff.rfl (fun _ _ => ?_) (fun z50 _ => ?_)
  · refine T2_ob (T2_t (s_fail _ _) (s_fail _ _)) (fun y z hy => ?_)
    rw [hy.1, hy.2]
    obtain ⟨z1, z2⟩ := E_er (a := t) (b := 179400) (e := 7) (by omega) hE (by omega) (by decide) (by omega) (by omega)
    exact T2_some (OuQ_z (I := fun _ => False) hM (FC_fe FE_er) (FC_fe FE_er) (UT_fe FE_er U1) (UT_fe FE_er U2) (Nat.le_refl _) z1 z2)
  have c50 : c < 50 := by
    have : c ≠ 50 := fun e => z50 (by rw [e]; rfl)
    omega
  have e214 : ∀ i, i < 60 → (214 : Int32) + 60 * nI c + nI i = nI (214 + 60 * c + i) := fun i hi => by
    rw [show (60 : Int32) * nI c = nI (60 * c) from n_mulN 60 c, show (214 : Int32) + nI (60 * c) = nI (214 + 60 * c) from n_add (p := 214) (by omega), n_add (by omega)]
  have e64 : (64 : Int32) + 3 * nI c = nI (64 + 3 * c) := by
    rw [show (3 : Int32) * nI c = nI (3 * c) from n_mulN 3 c]; exact n_add (p := 64) (by omega)
  -- the end: the frame is laid
  have b22 : ∀ (add : Nat) (π1 π2 : MS) (K1 K2 : Nat → Int32), add = suN (nwS ρ1 pr np t) 60 → StS ρ1 + suN (PtS ρ1) P' + add ≤ 40000 → CaS c n pr np t F.length add ρ1 π1 → CaS c n pr np t F.length add ρ2 π2 → K1 2 = nI pr → K2 2 = nI pr → T2 (fun k => x_beginCall k 23 K1 π1) (fun k => x_beginCall k 23 K2 π2) (fun r1 r2 => OuQ T FN S t w XC σ1 σ2 r1.2 r2.2) := by
    intro add π1 π2 K1 K2 ha hle q1 q2 k2 l2
    have W1 := UT_ca q1 U1 c50 (by omega) hc bb1 ha (fun i hi => by rw [r20]; exact hpf i hi) (fun P a b => by
      have : P = P' := (n_eq (by omega) (by omega)).mp (a.symm.trans u63)
      rw [this]; exact hle)
    have W2 := UT_ca q2 U2 c50 (by omega) k1 bb2 (by rw [sE]; exact ha) (fun i hi => by rw [s20]; exact hpf i hi) (fun P a b => by
      have : P = P' := (n_eq (by omega) (by omega)).mp (a.symm.trans v63)
      rw [this, eS, eR]; exact hle)
    have f1 := FC_ca q1 c50
    have f2 := FC_ca q2 c50
    have hK : Mid T FN S t w2 XC σ1 σ2 π1 π2 := Mid_fc hM f1 f2 (EI_ca q1 q2 hE c50 (by omega) hc) W1 W2
    have C1 := hK.2.2.2.1
    have C2 := hK.2.2.2.2.1
    obtain ⟨a1, a2, a3, a4, a5, a6, a7, a8, a9, a10, a11⟩ := q1
    have lv : LVs T S (π1.2.2 30) c un d v n F := LVs_cc (fun i a b => a11 i (by omega) (by omega) (by omega)) hLV
    have g2 : π1.2.2 30 2 = nI F.length := (a11 2 (by omega) (by omega) (by omega)).trans h2
    have g3 : π1.2.2 30 3 = nI (suI T F) := (a11 3 (by omega) (by omega) (by omega)).trans h3
    have gF : FSk T (π1.2.2 30) F := FSk_c (by omega) (fun i a b => a11 i (by omega) (by omega) (by omega)) hF
    have gI : ItS π1 (suI T F) := ItS_c (σ := ρ1) (by omega) (a5 28 (by decide)) (fun i hi => a11 i (by omega) (by omega) (by omega)) hIt
    have hIn : InP T S (c + 1) (1 + pr) 0 (-1) F π1 := ⟨by omega, a6, g2, gF, g3, gI, pb3, pb4, Or.inl ⟨rfl, rfl, Or.inr ⟨c, pr, un, d, v, n, rfl, rfl, by omega, a7, a8, a9, hk, y2, lv⟩⟩⟩
    have hy : T 17 pr = -1 ∨ ∃ b v', T 17 pr = nI b ∧ Pos T S (c + 1) (1 + pr) 0 v' b F π1 := by
      rcases h17 with z | ⟨b, v', xb, hSb⟩
      · exact Or.inl z
      · exact Or.inr ⟨b, v', xb, by omega, a6, ⟨hSb, pr, un, d, v, n, F, rfl, by omega, a7, a8, a9, hk, y2, rfl, lv⟩, g2, gF, g3, gI⟩
    refine T2_suc (fun k => by rw [x_beginCall]) (fun k => by rw [x_beginCall]) ?_
    rw [k2, l2]
    refine T2_chk (n_in (by omega) (by omega)) (n_in (by omega) (by omega)) ?_
    rw [n_cl (p := pr) (by omega), C1.2.1 17 _ (by omega) (by omega) (by omega), C2.2.1 17 _ (by omega) (by omega) (by omega)]
    exact T2_ob (E_enter hW hXC ht hw hK hIn hy rfl rfl rfl rfl) (fun s1 s2 hs => T2_some hs)
  -- slots are written
  have b17 : ∀ (add : Nat), add = suN (nwS ρ1 pr np t) 60 → StS ρ1 + suN (PtS ρ1) P' + add ≤ 40000 → ∀ (d i : Nat) (ν1 ν2 : MS) (K1 K2 : Nat → Int32), d + i = 60 → CaL c n pr np t F.length i (mSc ρ1 64 (ρ1.1 64 + nI add)) ν1 → CaL c n pr np t F.length i (mSc ρ2 64 (ρ2.1 64 + nI add)) ν2 → K1 2 = nI pr → K2 2 = nI pr → K1 3 = nI t → K2 3 = nI t → K1 6 = nI c → K2 6 = nI c → K1 7 = nI i → K2 7 = nI i → T2 (fun k => x_beginCall k 17 K1 ν1) (fun k => x_beginCall k 17 K2 ν2) (fun r1 r2 => OuQ T FN S t w XC σ1 σ2 r1.2 r2.2) := by
    intro add ha hle d
    induction d with
    | zero =>
      intro i ν1 ν2 K1 K2 hd q1 q2 k2 l2 k3 l3 k6 l6 k7 l7
      have ei : i = 60 := by omega
      subst ei
      refine T2_suc (fun k => by rw [x_beginCall]) (fun k => by rw [x_beginCall]) ?_
      rw [k7, l7]
      refine T2_ite Iff.rfl (fun _ _ => ?_) (fun z _ => absurd ((n_le (p := 60) (q := 60) (by decide) (by decide)).mpr (Nat.le_refl _)) z)
      refine T2_suc (fun k => by rw [x_beginCall]) (fun k => by rw [x_beginCall]) ?_
      rw [k3, l3]
      refine T2_suc (fun k => by rw [x_beginCall]) (fun k => by rw [x_beginCall]) ?_
      refine T2_chk (by decide) (by decide) ?_
      refine T2_chk (by decide) (by decide) ?_
      have p1 : ν1.2.2 30 1 = nI c := (q1.2.2.2.2.2.2.2 1 (by omega) (by omega)).trans hc
      have p2 : ν2.2.2 30 1 = nI c := (q2.2.2.2.2.2.2.2 1 (by omega) (by omega)).trans k1
      show T2 (fun k => x_beginCall k 23 K1 (mAr (mSc ν1 59 (nI t)) 30 (1 : Int32).toNatClampNeg (ν1.2.2 30 (1 : Int32).toNatClampNeg + 1))) (fun k => x_beginCall k 23 K2 (mAr (mSc ν2 59 (nI t)) 30 (1 : Int32).toNatClampNeg (ν2.2.2 30 (1 : Int32).toNatClampNeg + 1))) _
      rw [show (1 : Int32).toNatClampNeg = 1 from by decide, p1, p2, n_add1]
      have mk : ∀ (ρ ν : MS), CaL c n pr np t F.length 60 (mSc ρ 64 (ρ.1 64 + nI add)) ν → CaS c n pr np t F.length add ρ (mAr (mSc ν 59 (nI t)) 30 1 (nI (c + 1))) := fun ρ ν q => by
        obtain ⟨a1, a2, a3, a4, a5, a6, a7, a8⟩ := q
        have o : ∀ j, j ≠ 1 → (mAr (mSc ν 59 (nI t)) 30 1 (nI (c + 1))).2.2 30 j = ν.2.2 30 j := fun j hj => by rw [mAr_s, upd_other hj]; rfl
        refine ⟨fun j h1 h2 => ?_, rfl, ?_, a2, fun a ha => (mAr_o ha).trans (a3 a ha), by rw [mAr_s, upd_same], (o _ (by omega)).trans a4, (o _ (by omega)).trans a5, (o _ (by omega)).trans a6, fun j hj => (o _ (by omega)).trans (a7 j hj), fun j h1 h2 h3 => (o j h1).trans (a8 j h2 (by omega))⟩
        · show upd ν.1 59 (nI t) j = ρ.1 j
          rw [upd_other h1, a1]; exact upd_other h2
        · show upd ν.1 59 (nI t) 64 = _
          rw [upd_other (by decide), a1]; rfl
      exact b22 add _ _ _ _ ha hle (mk ρ1 ν1 q1) (mk ρ2 ν2 q2) k2 l2
    | succ d ih =>
      intro i ν1 ν2 K1 K2 hd q1 q2 k2 l2 k3 l3 k6 l6 k7 l7
      have i6 : i < 60 := by omega
      have r18 : ν1.2.2 18 pr = T 18 pr := (congrFun (q1.2.2.1 18 (by decide)) pr).trans (B1.2.1 18 pr (by omega) (by omega) (by omega))
      have s18 : ν2.2.2 18 pr = T 18 pr := (congrFun (q2.2.2.1 18 (by decide)) pr).trans (B2.2.1 18 pr (by omega) (by omega) (by omega))
      -- a write
      have b19 : ∀ (x y : Int32) (M1 M2 : Nat → Int32), x = (if i < np then ρ1.2.2 29 (t + i) else 0) → y = (if i < np then ρ2.2.2 29 (t + i) else 0) → M1 2 = nI pr → M2 2 = nI pr → M1 3 = nI t → M2 3 = nI t → M1 6 = nI c → M2 6 = nI c → M1 7 = nI i → M2 7 = nI i → M1 100 = x → M2 100 = y → M1 101 = nI (214 + 60 * c + i) → M2 101 = nI (214 + 60 * c + i) → T2 (fun k => x_beginCall k 19 M1 ν1) (fun k => x_beginCall k 19 M2 ν2) (fun r1 r2 => OuQ T FN S t w XC σ1 σ2 r1.2 r2.2) := by
        intro x y M1 M2 hx hy m2 o2 m3 o3 m6 o6 m7 o7 m100 o100 m101 o101
        refine T2_suc (fun k => by rw [x_beginCall]) (fun k => by rw [x_beginCall]) ?_
        rw [m101, o101, m100, o100]
        refine T2_chk (n_in (by omega) (by omega)) (n_in (by omega) (by omega)) ?_
        rw [n_cl (p := 214 + 60 * c + i) (by omega)]
        refine T2_suc (fun k => by rw [x_beginCall]) (fun k => by rw [x_beginCall]) ?_
        rw [m7, o7, n_add1]
        exact ih (i + 1) (mAr ν1 30 (214 + 60 * c + i) x) (mAr ν2 30 (214 + 60 * c + i) y) _ _ (by omega) (CaL_1 c50 i6 q1 hx) (CaL_1 c50 i6 q2 hy) m2 o2 m3 o3 m6 o6 rfl rfl
      refine T2_suc (fun k => by rw [x_beginCall]) (fun k => by rw [x_beginCall]) ?_
      rw [k7, l7, k2, l2, k6, l6, k3, l3, e214 i i6]
      refine T2_ite Iff.rfl (fun z _ => ?_) (fun _ _ => ?_)
      · have := (n_le (p := 60) (by decide) (by omega)).mp z
        omega
      refine T2_chk (n_in (by omega) (by omega)) (n_in (by omega) (by omega)) ?_
      rw [n_cl (p := pr) (by omega), r18, s18, y3]
      refine T2_ite Iff.rfl (fun z _ => ?_) (fun z _ => ?_)
      · have z := (n_le (by omega) (by omega)).mp z
        refine T2_suc (fun k => by rw [x_beginCall]) (fun k => by rw [x_beginCall]) ?_
        exact b19 0 0 _ _ (by rw [if_neg (by omega)]) (by rw [if_neg (by omega)]) k2 l2 k3 l3 k6 l6 k7 l7 rfl rfl rfl rfl
      · have z : i < np := by
          have : ¬ np ≤ i := fun y => z ((n_le (by omega) (by omega)).mpr y)
          omega
        rw [n_add (p := t) (by omega)]
        refine T2_chk (n_in (by omega) (by omega)) (n_in (by omega) (by omega)) ?_
        rw [n_cl (p := t + i) (by omega), q1.2.2.1 29 (by decide), q2.2.2.1 29 (by decide)]
        exact b19 (ρ1.2.2 29 (t + i)) (ρ2.2.2 29 (t + i)) _ _ (by rw [if_pos z]) (by rw [if_pos z]) k2 l2 k3 l3 k6 l6 k7 l7 rfl rfl rfl rfl
  -- sizes are added
  have b7 : ∀ (d i : Nat) (K1 K2 : Nat → Int32), d + i = ns → K1 1 = nI n → K2 1 = nI n → K1 2 = nI pr → K2 2 = nI pr → K1 3 = nI t → K2 3 = nI t → K1 5 = nI (suN (nwS ρ1 pr np t) i) → K2 5 = nI (suN (nwS ρ1 pr np t) i) → K1 6 = nI i → K2 6 = nI i → T2 (fun k => x_beginCall k 7 K1 ρ1) (fun k => x_beginCall k 7 K2 ρ2) (fun r1 r2 => OuQ T FN S t w XC σ1 σ2 r1.2 r2.2) := by
    intro d
    induction d with
    | zero =>
      intro i K1 K2 hd k1' l1' k2' l2' k3 l3 k5 l5 k6 l6
      have ei : i = ns := by omega
      subst ei
      have sb := sB i
      refine T2_suc (fun k => by rw [x_beginCall]) (fun k => by rw [x_beginCall]) ?_
      rw [k2', l2', k6, l6, e1p]
      refine T2_chk (n_in (by omega) (by omega)) (n_in (by omega) (by omega)) ?_
      rw [n_cl (p := 1 + pr) (by omega), B1.2.1 21 _ (by omega) (by omega) (by omega), B2.2.1 21 _ (by omega) (by omega) (by omega), y5]
      refine T2_ite Iff.rfl (fun _ _ => ?_) (fun z _ => absurd (Int32.le_refl _) z)
      have ar : ρ1.1 64 + ρ1.1 65 + nI (suN (nwS ρ1 pr np t) i) = nI (StS ρ1 + suN (PtS ρ1) P' + suN (nwS ρ1 pr np t) i) := by
        rw [u64, u65, n_add (by omega), n_add (by omega)]
      have ar2 : ρ2.1 64 + ρ2.1 65 + nI (suN (nwS ρ1 pr np t) i) = nI (StS ρ1 + suN (PtS ρ1) P' + suN (nwS ρ1 pr np t) i) := by
        rw [← al 64 (by unfold AlS; omega), ← al 65 (by unfold AlS; omega)]; exact ar
      refine T2_suc (fun k => by rw [x_beginCall]) (fun k => by rw [x_beginCall]) ?_
      rw [k5, l5, ar, ar2]
      refine T2_ite Iff.rfl (fun z _ => ?_) (fun _ _ => ?_)
      · have z := (n_le (q := 40000) (by omega) (by decide)).mp z
        refine T2_suc (fun k => by rw [x_beginCall]) (fun k => by rw [x_beginCall]) ?_
        rw [k5, l5]
        refine T2_suc (fun k => by rw [x_beginCall]) (fun k => by rw [x_beginCall]) ?_
        refine T2_chk (by decide) (by decide) ?_
        show T2 (fun k => if ¬ ((64 : Int32) + 3 * ρ1.2.2 30 (1 : Int32).toNatClampNeg < 0 ∨ 11514 ≤ ((64 : Int32) + 3 * ρ1.2.2 30 (1 : Int32).toNatClampNeg).toNatClampNeg) then x_beginCall k 14 (upd K1 6 (ρ1.2.2 30 (1 : Int32).toNatClampNeg)) (mAr (mSc ρ1 64 (ρ1.1 64 + nI (suN (nwS ρ1 pr np t) i))) 30 ((64 : Int32) + 3 * ρ1.2.2 30 (1 : Int32).toNatClampNeg).toNatClampNeg (K1 1)) else none) (fun k => if ¬ ((64 : Int32) + 3 * ρ2.2.2 30 (1 : Int32).toNatClampNeg < 0 ∨ 11514 ≤ ((64 : Int32) + 3 * ρ2.2.2 30 (1 : Int32).toNatClampNeg).toNatClampNeg) then x_beginCall k 14 (upd K2 6 (ρ2.2.2 30 (1 : Int32).toNatClampNeg)) (mAr (mSc ρ2 64 (ρ2.1 64 + nI (suN (nwS ρ1 pr np t) i))) 30 ((64 : Int32) + 3 * ρ2.2.2 30 (1 : Int32).toNatClampNeg).toNatClampNeg (K2 1)) else none) _
        rw [show (1 : Int32).toNatClampNeg = 1 from by decide, hc, k1, e64, k1', l1']
        refine T2_chk (n_in (by omega) (by omega)) (n_in (by omega) (by omega)) ?_
        rw [n_cl (p := 64 + 3 * c) (by omega)]
        have m2 : upd K1 6 (nI c) 2 = nI pr := k2'
        have o2' : upd K2 6 (nI c) 2 = nI pr := l2'
        have m3 : upd K1 6 (nI c) 3 = nI t := k3
        have o3' : upd K2 6 (nI c) 3 = nI t := l3
        have m6 : upd K1 6 (nI c) 6 = nI c := rfl
        have o6' : upd K2 6 (nI c) 6 = nI c := rfl
        generalize upd K1 6 (nI c) = J1 at *
        generalize upd K2 6 (nI c) = J2 at *
        have g1 : ∀ ρ : MS, (mSc ρ 64 (ρ.1 64 + nI (suN (nwS ρ1 pr np t) i))).2.2 30 = ρ.2.2 30 := fun _ => rfl
        have cal : ∀ (ρ : MS), CaL c n pr np t F.length 0 (mSc ρ 64 (ρ.1 64 + nI (suN (nwS ρ1 pr np t) i))) (mAr (mAr (mAr (mSc ρ 64 (ρ.1 64 + nI (suN (nwS ρ1 pr np t) i))) 30 (64 + 3 * c) (nI n)) 30 (65 + 3 * c) (nI pr)) 30 (66 + 3 * c) (nI F.length)) := fun ρ => by
          refine ⟨rfl, rfl, fun a ha => by rw [mAr_o ha, mAr_o ha, mAr_o ha], ?_, ?_, ?_, fun j hj => by omega, fun j h1 _ => ?_⟩
          · rw [mAr_s, upd_other (by omega), mAr_s, upd_other (by omega), mAr_s, upd_same]
          · rw [mAr_s, upd_other (by omega), mAr_s, upd_same]
          · rw [mAr_s, upd_same]
          · rw [mAr_s, upd_other (by omega), mAr_s, upd_other (by omega), mAr_s, upd_other (by omega)]
        have two : ∀ (ρ : MS), ρ.2.2 30 2 = nI F.length → (mAr (mAr (mSc ρ 64 (ρ.1 64 + nI (suN (nwS ρ1 pr np t) i))) 30 (64 + 3 * c) (nI n)) 30 (65 + 3 * c) (nI pr)).2.2 30 2 = nI F.length := fun ρ h => by
          rw [mAr_s, upd_other (by omega), mAr_s, upd_other (by omega)]; exact h
        have w1 := two ρ1 h2
        have w2' := two ρ2 k2
        have c1 := cal ρ1
        have c2 := cal ρ2
        refine T2_suc (fun k => by rw [x_beginCall]) (fun k => by rw [x_beginCall]) ?_
        rw [m6, o6', m2, o2', e64, n_add1]
        refine T2_chk (n_in (by omega) (by omega)) (n_in (by omega) (by omega)) ?_
        rw [n_cl (p := 64 + 3 * c + 1) (by omega), show 64 + 3 * c + 1 = 65 + 3 * c by omega]
        show T2 (fun k => x_beginCall k 15 J1 (mAr (mAr (mSc ρ1 64 (ρ1.1 64 + nI (suN (nwS ρ1 pr np t) i))) 30 (64 + 3 * c) (nI n)) 30 (65 + 3 * c) (nI pr))) (fun k => x_beginCall k 15 J2 (mAr (mAr (mSc ρ2 64 (ρ2.1 64 + nI (suN (nwS ρ1 pr np t) i))) 30 (64 + 3 * c) (nI n)) 30 (65 + 3 * c) (nI pr))) _
        refine T2_suc (fun k => by rw [x_beginCall]) (fun k => by rw [x_beginCall]) ?_
        refine T2_chk (by decide) (by decide) ?_
        rw [m6, o6', e64, show nI (64 + 3 * c) + 2 = nI (64 + 3 * c + 2) from n_add (q := 2) (by omega)]
        refine T2_chk (n_in (by omega) (by omega)) (n_in (by omega) (by omega)) ?_
        rw [n_cl (p := 64 + 3 * c + 2) (by omega), show 64 + 3 * c + 2 = 66 + 3 * c by omega, show (2 : Int32).toNatClampNeg = 2 from by decide, w1, w2']
        refine T2_suc (fun k => by rw [x_beginCall]) (fun k => by rw [x_beginCall]) ?_
        exact b17 (suN (nwS ρ1 pr np t) i) s60.symm z 60 0 _ _ _ _ (by omega) c1 c2 m2 o2' m3 o3' m6 o6' rfl rfl
      · refine T2_ob (T2_t (s_fail _ _) (s_fail _ _)) (fun y z hy => ?_)
        rw [hy.1, hy.2]
        obtain ⟨z1, z2⟩ := E_er (a := t) (b := 179400) (e := 6) (by omega) hE (by omega) (by decide) (by omega) (by omega)
        exact T2_some (OuQ_z (I := fun _ => False) hM (FC_fe FE_er) (FC_fe FE_er) (UT_fe FE_er U1) (UT_fe FE_er U2) (Nat.le_refl _) z1 z2)
    | succ d ih =>
      intro i K1 K2 hd k1' l1' k2' l2' k3 l3 k5 l5 k6 l6
      have i6 : i < 60 := by omega
      have sb := sB (i + 1)
      have pe : suN (nwS ρ1 pr np t) (i + 1) = suN (nwS ρ1 pr np t) i + nwS ρ1 pr np t i := rfl
      have b10 : ∀ (M1 M2 : Nat → Int32), M1 1 = nI n → M2 1 = nI n → M1 2 = nI pr → M2 2 = nI pr → M1 3 = nI t → M2 3 = nI t → M1 6 = nI i → M2 6 = nI i → M1 100 = nI (nwS ρ1 pr np t i) → M2 100 = nI (nwS ρ1 pr np t i) → M1 101 = nI (suN (nwS ρ1 pr np t) i) → M2 101 = nI (suN (nwS ρ1 pr np t) i) → T2 (fun k => x_beginCall k 10 M1 ρ1) (fun k => x_beginCall k 10 M2 ρ2) (fun r1 r2 => OuQ T FN S t w XC σ1 σ2 r1.2 r2.2) := by
        intro M1 M2 a1 c1 a2 c2 a3 c3 a6 c6 a100 c100 a101 c101
        refine T2_suc (fun k => by rw [x_beginCall]) (fun k => by rw [x_beginCall]) ?_
        rw [a100, c100, a101, c101, a6, c6, n_add1, n_add (by omega), ← pe]
        exact ih (i + 1) _ _ (by omega) a1 c1 a2 c2 a3 c3 rfl rfl rfl rfl
      refine T2_suc (fun k => by rw [x_beginCall]) (fun k => by rw [x_beginCall]) ?_
      rw [k2', l2', k6, l6, e1p, e60, n_add (p := 60 * (1 + pr)) (by omega), k5, l5]
      refine T2_chk (n_in (by omega) (by omega)) (n_in (by omega) (by omega)) ?_
      rw [n_cl (p := 1 + pr) (by omega), B1.2.1 21 _ (by omega) (by omega) (by omega), B2.2.1 21 _ (by omega) (by omega) (by omega), y5]
      refine T2_ite Iff.rfl (fun z _ => ?_) (fun _ _ => ?_)
      · have := (n_le (by omega) (by omega)).mp z
        omega
      refine T2_chk (n_in (by omega) (by omega)) (n_in (by omega) (by omega)) ?_
      rw [n_cl (p := 60 * (1 + pr) + i) (by omega), ← kC_in (σ := ρ1) (u := 1 + pr) (s := i) (by omega) (by rw [B1.2.1 21 _ (by omega) (by omega) (by omega), y5, n_cl (p := ns) (by omega)]; omega) (by have := STb_30 B1.1 y1; omega), ← kC_in (σ := ρ2) (u := 1 + pr) (s := i) (by omega) (by rw [B2.2.1 21 _ (by omega) (by omega) (by omega), y5, n_cl (p := ns) (by omega)]; omega) (by have := STb_30 B2.1 y1; omega), r20, s20]
      refine T2_ite Iff.rfl (fun z _ => ?_) (fun z _ => ?_)
      · have p0 : nwS ρ1 pr np t i = 0 := by unfold nwS; rw [r20, if_pos z]
        refine T2_suc (fun k => by rw [x_beginCall]) (fun k => by rw [x_beginCall]) ?_
        exact b10 _ _ k1' l1' k2' l2' k3 l3 k6 l6 (by rw [p0]; rfl) (by rw [p0]; rfl) rfl rfl
      · refine T2_chk (n_in (by omega) (by omega)) (n_in (by omega) (by omega)) ?_
        rw [n_cl (p := pr) (by omega), B1.2.1 18 _ (by omega) (by omega) (by omega), B2.2.1 18 _ (by omega) (by omega) (by omega), y3]
        refine T2_ite Iff.rfl (fun y _ => ?_) (fun y _ => ?_)
        · have y := (n_le (by omega) (by omega)).mp y
          have p0 : nwS ρ1 pr np t i = 1 := by unfold nwS; rw [r20, if_neg z, if_neg (by omega)]
          refine T2_suc (fun k => by rw [x_beginCall]) (fun k => by rw [x_beginCall]) ?_
          exact b10 _ _ k1' l1' k2' l2' k3 l3 k6 l6 (by rw [p0]; rfl) (by rw [p0]; rfl) rfl rfl
        · have y : i < np := by
            have : ¬ np ≤ i := fun q => y ((n_le (by omega) (by omega)).mpr q)
            omega
          obtain ⟨va, vb, a1, a2, a3, a4, a5, a6, a7⟩ := val i y
          have p0 : nwS ρ1 pr np t i = szN (ρ1.2.2 28) va := by unfold nwS; rw [r20, if_neg z, if_pos y, a1, n_cl (p := va) (by omega)]
          rw [k3, l3, n_add (p := t) (by omega)]
          refine T2_chk (n_in (by omega) (by omega)) (n_in (by omega) (by omega)) ?_
          rw [n_cl (p := t + i) (by omega), a1, a3]
          refine T2_ob (T2_t (s_size m1.1 a2 rfl) (s_size m2.1 a4 rfl)) (fun r1 r2 hr => ?_)
          rw [hr.1, hr.2, a5, ← p0]
          exact b10 _ _ k1' l1' k2' l2' k3 l3 k6 l6 rfl rfl rfl rfl
  refine T2_suc (fun k => by rw [x_beginCall]) (fun k => by rw [x_beginCall]) ?_
  exact b7 ns 0 _ _ (by omega) n1 o1 n2 o2 n3 o3 rfl rfl rfl rfl
/-- a call -/
theorem E_beginCall (hW : SWf T FN S) (hXC : XC ≤ 401000) (ht : t + 9 + KBn T ≤ w + 17000) {c un d v n w' : Nat} {F : List Nat} (hw : w ≤ w') (hM : Mid T FN S t w' XC σ1 σ2 τ1 τ2) (hP : Pos T S c un d v n F τ1) (hk : T 4 n = 45) (hCb : ∀ pr np, T 7 n = nI pr → pr < 41 → T 18 pr = nI np → np ≤ 8 → (∀ i, i < np → ¬ T 20 (60 * (1 + pr) + i) = 0) ∧ (T 17 pr = -1 ∨ ∃ b v', T 17 pr = nI b ∧ S (1 + pr) 0 v' b)) {L1 L2 : Nat → Int32} (d1 : L1 1 = nI n) (d2 : L2 1 = nI n) : T2 (fun k => x_beginCall k 0 L1 τ1) (fun k => x_beginCall k 0 L2 τ2) (fun r1 r2 => OuQ T FN S t w XC σ1 σ2 r1.2 r2.2) := by
  obtain ⟨hE, U1, U2, B1, B2, kp⟩ := id hM
  have w6 := EI_w hE
  obtain ⟨_, _, ⟨n7, _, _⟩, pb3, pb4⟩ := Pos_b hW hP
  obtain ⟨_, _, _, _, _, h45⟩ := hW un d v n (LVs_S hP.2.2.1)
  obtain ⟨pr, np, ns, y1, y2, y3, y4, y5, y6, y7, y8, y9⟩ := h45 hk
  obtain ⟨hpf, h17⟩ := hCb pr np y2 (by omega) y3 (by omega)
  have hSc := Pos_sc B1 hP
  obtain ⟨s1, s2⟩ := EI_59 hE
  have tb : ∀ (ρ1 ρ2 : MS), FE τ1 ρ1 → FE τ2 ρ2 → Bs T FN ρ1 ∧ Bs T FN ρ2 := fun ρ1 ρ2 f1 f2 => ⟨Bs_fc (I := fun _ => False) B1 (FC_fe f1), Bs_fc (I := fun _ => False) B2 (FC_fe f2)⟩
  have lp : ∀ (q i : Nat) (x : Int32) (ρ1 ρ2 : MS) (K1 K2 : Nat → Int32), q + i = np → ArL T FN (lcU un T) (cnU un T) pr q i x → FE τ1 ρ1 → FE τ2 ρ2 → ((∃ w2, w' ≤ w2 ∧ EI (t + i) w2 XC ρ1 ρ2) ∨ (EZ t (179300 + i) ρ1 ∧ EZ t (179300 + i) ρ2)) → K1 1 = nI n → K2 1 = nI n → K1 2 = nI pr → K2 2 = nI pr → K1 3 = nI t → K2 3 = nI t → K1 4 = nI i → K2 4 = nI i → K1 5 = x → K2 5 = x → T2 (fun k => x_beginCall k 1 K1 ρ1) (fun k => x_beginCall k 1 K2 ρ2) (fun r1 r2 => OuQ T FN S t w XC σ1 σ2 r1.2 r2.2) := by
    intro q
    induction q with
    | zero =>
      intro i x ρ1 ρ2 K1 K2 hq hL f1 f2 hor k1 l1 k2 l2 k3 l3 k4 l4 k5 l5
      have hL : x = -1 := hL
      have ei : i = np := by omega
      subst ei
      refine T2_suc (fun k => by rw [x_beginCall]) (fun k => by rw [x_beginCall]) ?_
      rw [k5, l5, hL]
      refine T2_ite Iff.rfl (fun _ _ => ?_) (fun z _ => absurd rfl z)
      rcases hor with ⟨w2, hw2, hJ⟩ | ⟨z1, z2⟩
      · exact E_call4 hW hXC ht (Nat.le_trans hw hw2) (Mid_fc (I := fun _ => False) hM (FC_fe f1) (FC_fe f2) hJ (UT_fe f1 U1) (UT_fe f2 U2)) (Pos_fs hW (FS_fe f1) hP) hk y1 y2 y3 y4 y5 y6 y7 hpf h17 k1 l1 k2 l2 k3 l3
      · refine T2_suc (fun k => by rw [x_beginCall]) (fun k => by rw [x_beginCall]) ?_
        refine T2_ite ⟨fun z => absurd z (EZ_le z1), fun z => absurd z (EZ_le z2)⟩ (fun z _ => absurd z (EZ_le z1)) (fun _ _ => ?_)
        exact T2_some (OuQ_z (I := fun _ => False) hM (FC_fe f1) (FC_fe f2) (UT_fe f1 U1) (UT_fe f2 U2) (by omega) z1 z2)
    | succ q ih =>
      intro i x ρ1 ρ2 K1 K2 hq hL f1 f2 hor k1 l1 k2 l2 k3 l3 k4 l4 k5 l5
      obtain ⟨e, xe, he, _, hX, hL⟩ := hL
      obtain ⟨C1, C2⟩ := tb ρ1 ρ2 f1 f2
      have e8 : (8 : Int32) * nI pr + nI i = nI (8 * pr + i) := by
        rw [show (8 : Int32) * nI pr = nI (8 * pr) from n_mulN 8 pr, n_add (by omega)]
      have h19 : (19 : Nat) ≠ 20 ∧ (19 ≤ 18 → 8 * pr + i < CNo T % 42) ∧ (19 = 19 → 8 * pr + i < 8 * (CNo T % 42) ∧ (8 * pr + i) % 8 < (T 18 ((8 * pr + i) / 8)).toNatClampNeg) ∧ (19 = 21 → 8 * pr + i ≤ CNo T % 42) := ⟨by decide, fun z => absurd z (by decide), fun _ => ⟨by omega, by rw [show (8 * pr + i) / 8 = pr by omega, y3, n_cl (p := np) (by omega)]; omega⟩, fun z => absurd z (by decide)⟩
      have b3 : ∀ (π1 π2 : MS), FE τ1 π1 → FE τ2 π2 → ((∃ w2, w' ≤ w2 ∧ EI (t + i + 1) w2 XC π1 π2) ∨ (EZ t (179300 + (i + 1)) π1 ∧ EZ t (179300 + (i + 1)) π2)) → T2 (fun k => x_beginCall k 3 K1 π1) (fun k => x_beginCall k 3 K2 π2) (fun r1 r2 => OuQ T FN S t w XC σ1 σ2 r1.2 r2.2) := by
        intro π1 π2 j1 j2 hor
        obtain ⟨D1, D2⟩ := tb π1 π2 j1 j2
        refine T2_suc (fun k => by rw [x_beginCall]) (fun k => by rw [x_beginCall]) ?_
        rw [k5, l5, k4, l4, xe, n_add1]
        refine T2_chk (n_in (by omega) (by omega)) (n_in (by omega) (by omega)) ?_
        rw [n_cl (p := e) (by omega), D1.1.1 9 _ (by omega) (by omega) (by omega), D2.1.1 9 _ (by omega) (by omega) (by omega)]
        exact ih (i + 1) (T 9 e) π1 π2 _ _ (by omega) hL j1 j2 hor k1 l1 k2 l2 k3 l3 rfl rfl rfl rfl
      refine T2_suc (fun k => by rw [x_beginCall]) (fun k => by rw [x_beginCall]) ?_
      rw [k5, l5, xe, k2, l2, k4, l4, e8]
      refine T2_ite Iff.rfl (fun z _ => absurd z (ne_m1 he)) (fun _ _ => ?_)
      refine T2_chk (n_in (by omega) (by omega)) (n_in (by omega) (by omega)) ?_
      rw [n_cl (p := 8 * pr + i) (by omega), C1.2.1 19 _ (by omega) (by omega) h19, C2.2.1 19 _ (by omega) (by omega) h19]
      refine T2_ite Iff.rfl (fun _ _ => ?_) (fun z _ => ?_)
      · refine T2_suc (fun k => by rw [x_beginCall]) (fun k => by rw [x_beginCall]) ?_
        rcases hor with ⟨w2, hw2, hJ⟩ | ⟨z1, z2⟩
        · obtain ⟨t1, t2⟩ := EI_59 hJ
          refine T2_ob (T2_t (s_push t1 (by omega) _) (s_push t2 (by omega) _)) (fun r1 r2 hr => ?_)
          rw [hr.1, hr.2]
          exact b3 _ _ (FE_tr f1 FE_pu) (FE_tr f2 FE_pu) (Or.inl ⟨w2, hw2, EI_pu0 (by omega) hJ⟩)
        · refine T2_ob (T2_t (s_pushZ z1 (by omega) _ rfl) (s_pushZ z2 (by omega) _ rfl)) (fun r1 r2 hr => ?_)
          exact b3 _ _ (FE_tr f1 hr.1.2) (FE_tr f2 hr.2.2) (Or.inr ⟨hr.1.1, hr.2.1⟩)
      · have hXe : Wx0 T FN (lcU un T) (nI e) := by rw [← xe]; exact hX z
        rcases hor with ⟨w2, hw2, hJ⟩ | ⟨z1, z2⟩
        · refine T2_ob (E_eval (by omega) (by omega) (Sc0_fe hSc.1 f1) hXe hJ rfl rfl) (fun r1 r2 hr => ?_)
          obtain ⟨j1, j2, hr⟩ := hr
          refine b3 _ _ (FE_tr f1 j1) (FE_tr f2 j2) (hr.imp (fun ⟨w3, h3, h⟩ => ⟨w3, by omega, h⟩) (fun ⟨a, b⟩ => ⟨EZ_mo a (by omega) (by omega), EZ_mo b (by omega) (by omega)⟩))
        · refine T2_ob (T2_t (s_evalZ C1.1 hXe (EZ_le z1) (EZ_e z1) rfl) (s_evalZ C2.1 hXe (EZ_le z2) (EZ_e z2) rfl)) (fun r1 r2 hr => ?_)
          rw [hr.1, hr.2]
          exact b3 _ _ f1 f2 (Or.inr ⟨EZ_mo z1 (Nat.le_refl _) (by omega), EZ_mo z2 (Nat.le_refl _) (by omega)⟩)
  refine T2_suc (fun k => by rw [x_beginCall]) (fun k => by rw [x_beginCall]) ?_
  rw [d1, d2]
  refine T2_chk (n_in (by omega) (by omega)) (n_in (by omega) (by omega)) ?_
  refine T2_chk (n_in (by omega) (by omega)) (n_in (by omega) (by omega)) ?_
  rw [n_cl (p := n) (by omega), B1.1.1 7 _ (by omega) (by omega) (by omega), B2.1.1 7 _ (by omega) (by omega) (by omega), B1.1.1 6 _ (by omega) (by omega) (by omega), B2.1.1 6 _ (by omega) (by omega) (by omega), s1, s2, y2]
  exact lp np 0 (T 6 n) τ1 τ2 _ _ (by omega) y8 FE_rf FE_rf (Or.inl ⟨w', Nat.le_refl _, hE⟩) d1 d2 rfl rfl rfl rfl rfl rfl rfl rfl
end BCL
