section JnS259
/-! Statements on both sides (reference): a call is begun. -/
theorem suN_bd {f : Nat → Nat} {b : Nat} : ∀ {n : Nat}, (∀ i, i < n → f i ≤ b) → suN f n ≤ b * n
  | 0, _ => Nat.zero_le _
  | n + 1, h => by
    have a := suN_bd (f := f) (b := b) (n := n) (fun i hi => h i (by omega))
    have c := h n (by omega)
    have e : b * (n + 1) = b * n + b := Nat.mul_succ b n
    show suN f n + f n ≤ _
    omega
section LVC
variable {T : Nat → Nat → Int32} {S : Nat → Nat → Nat → Nat → Prop} {A A' : Nat → Int32}
theorem LVs_cc : ∀ {c un d v n : Nat} {F : List Nat}, (∀ i, 64 ≤ i → i < 64 + 3 * c → A' i = A i) → LVs T S A c un d v n F → LVs T S A' c un d v n F := by
  intro c
  induction c with
  | zero => intro un d v n F _ h; exact h
  | succ c ih =>
    intro un d v n F ha h
    obtain ⟨hS, pr, un0, d0, v0, n0, F0, h1, h2, h3, h4, h5, h6, h7, h8, h9⟩ := h
    exact ⟨hS, pr, un0, d0, v0, n0, F0, h1, h2, by rw [ha _ (by omega) (by omega)]; exact h3, by rw [ha _ (by omega) (by omega)]; exact h4, by rw [ha _ (by omega) (by omega)]; exact h5, h6, h7, h8, ih (fun i a b => ha i a (by omega)) h9⟩
end LVC
section BCL
variable {T : Nat → Nat → Int32} {FN : Nat → Nat → Prop} {S : Nat → Nat → Nat → Nat → Prop} {t w XC : Nat} {τ1 τ2 σ1 σ2 : MS}
/-- behind the arguments -/
theorem E_call4 (hW : SWf T FN S) (hXC : XC ≤ 401000) (ht : t + 9 + KBn T ≤ w + 17000) {c un d v n w2 pr np ns : Nat} {F : List Nat} {ρ1 ρ2 : MS} (hw : w ≤ w2) (hM : Mid T FN S (t + np) w2 XC σ1 σ2 ρ1 ρ2) (hP : Pos T S c un d v n F ρ1) (hk : T 4 n = 45) (y1 : pr < CNo T % 42) (y2 : T 7 n = nI pr) (y3 : T 18 pr = nI np) (y4 : np ≤ 8) (y5 : T 21 (1 + pr) = nI ns) (y6 : ns ≤ 60) (y7 : ∀ s, ns ≤ s → s < 60 → T 20 (60 * (1 + pr) + s) = 0) (hpf : ∀ i, i < np → ¬ T 20 (60 * (1 + pr) + i) = 0) (h17 : T 17 pr = -1 ∨ ∃ b v', T 17 pr = nI b ∧ S (1 + pr) 0 v' b) {N1 N2 : Nat → Int32} (n1 : N1 1 = nI n) (o1 : N2 1 = nI n) (n2 : N1 2 = nI pr) (o2 : N2 2 = nI pr) (n3 : N1 3 = nI t) (o3 : N2 3 = nI t) : T2 (fun k => x_beginCall k 4 N1 ρ1) (fun k => x_beginCall k 4 N2 ρ2) (fun r1 r2 => OuQ T FN S t w XC σ1 σ2 r1.2 r2.2) := by
  obtain ⟨hE, U1, U2, B1, B2, kp⟩ := id hM
  have w6 := EI_w hE
  obtain ⟨_, _, ⟨n7, _, _⟩, pb3, pb4⟩ := Pos_b hW hP
  obtain ⟨hc5, hc, hLV, h2, hF, h3, hIt⟩ := id hP
  obtain ⟨e1, e2⟩ := EI_e hE
  obtain ⟨bb1, bb2⟩ := EI_B hE
  have k1 : ρ2.2.2 30 1 = nI c := (EI_30 hE (by unfold Zn; omega) (InA_4 (by omega))).trans hc
  have k2 : ρ2.2.2 30 2 = nI F.length := (EI_30 hE (by unfold Zn; omega) (InA_4 (by omega))).trans h2
  have hE0 := hE
  obtain ⟨g1, l1, D1, hh1, X1, g2, l2, D2, hh2, X2, m1, m2, hR, _⟩ := hE0
  have al := hR.2.2.1
  obtain ⟨u64, P, u63, hP20, u65, _, ul, _⟩ := id U1
  obtain ⟨v64, P', v63, hP20', v65, _, vl, _⟩ := id U2
  have eS : StS ρ2 = StS ρ1 := (n_eq (by omega) (by omega)).mp (v64.symm.trans ((al 64 (by unfold AlS; omega)).symm.trans u64))
  have eP : P' = P := (n_eq (by omega) (by omega)).mp (v63.symm.trans ((al 63 (by unfold AlS; omega)).symm.trans u63))
  subst eP
  have eR : suN (PtS ρ2) P' = suN (PtS ρ1) P' := (n_eq (by omega) (by omega)).mp (v65.symm.trans ((al 65 (by unfold AlS; omega)).symm.trans u65))
  -- what lies upon the pile
  have val : ∀ i, i < np → ∃ va vb, ρ1.2.2 29 (t + i) = nI va ∧ (va < 3 ∨ g1 va) ∧ ρ2.2.2 29 (t + i) = nI vb ∧ (vb < 3 ∨ g2 vb) ∧ szN (ρ2.2.2 28) vb = szN (ρ1.2.2 28) va ∧ va < 1740000 ∧ vb < 1740000 := fun i hi => by
    obtain ⟨va, vb, a1, a2, a3, a4, a5, a6, a7⟩ := hR.1 29 (t + i) (Or.inl ⟨rfl, by omega⟩) (by unfold VwR; omega)
    exact ⟨va, vb, a1, a2, a3, a4, (EVb_sz a5).1, a6, a7⟩
  have r20 : kC ρ1 = T 20 := funext B1.2.2.2.2.2.2
  have s20 : kC ρ2 = T 20 := funext B2.2.2.2.2.2.2
  have nE : ∀ i, nwS ρ2 pr np t i = nwS ρ1 pr np t i := fun i => by
    unfold nwS
    rw [r20, s20]
    by_cases z : T 20 (60 * (1 + pr) + i) = 0
    · rw [if_pos z, if_pos z]
    · rw [if_neg z, if_neg z]
      by_cases y : i < np
      · obtain ⟨va, vb, a1, a2, a3, a4, a5, a6, a7⟩ := val i y
        rw [if_pos y, if_pos y, a1, a3, n_cl (p := va) (by omega), n_cl (p := vb) (by omega), a5]
      · rw [if_neg y, if_neg y]
  have nB : ∀ i, nwS ρ1 pr np t i ≤ 1000 := fun i => by
    unfold nwS
    by_cases z : kC ρ1 (60 * (1 + pr) + i) = 0
    · rw [if_pos z]; omega
    · rw [if_neg z]
      by_cases y : i < np
      · obtain ⟨va, vb, a1, a2, a3, a4, a5, a6, a7⟩ := val i y
        have := szN_b m1.1 a2
        rw [if_pos y, a1, n_cl (p := va) (by omega)]; omega
      · rw [if_neg y]; omega
  have sB : ∀ i, suN (nwS ρ1 pr np t) i ≤ 1000 * i := fun i => suN_bd (fun j _ => nB j)
  have sE : ∀ i, suN (nwS ρ2 pr np t) i = suN (nwS ρ1 pr np t) i := fun i => suN_c (fun j _ => nE j)
  have s60 : suN (nwS ρ1 pr np t) 60 = suN (nwS ρ1 pr np t) ns := suN_ex y6 (fun j h1 h2 => by
    unfold nwS; rw [r20, if_pos (y7 j h1 h2)])
  have e1p : (1 : Int32) + nI pr = nI (1 + pr) := n_add (p := 1) (by omega)
  have e60 : (60 : Int32) * nI (1 + pr) = nI (60 * (1 + pr)) := n_mulN 60 (1 + pr)
  refine T2_suc (fun k => by rw [x_beginCall]) (fun k => by rw [x_beginCall]) ?_
  rw [e1, e2]
  refine T2_ite Iff.rfl (fun _ _ => ?_) (fun z _ => absurd (by decide) z)
  refine T2_suc (fun k => by rw [x_beginCall]) (fun k => by rw [x_beginCall]) ?_
  refine T2_chk (by decide) (by decide) ?_
  rw [show (1 : Int32).toNatClampNeg = 1 from by decide, hc, k1]
  refine T2_ite Iff.rfl (fun _ _ => ?_) (fun z50 _ => ?_)
  · refine T2_ob (T2_t (s_fail _ _) (s_fail _ _)) (fun y z hy => ?_)
    rw [hy.1, hy.2]
    obtain ⟨z1, z2⟩ := E_er (a := t) (b := 179400) (e := 7) (by omega) hE (by omega) (by decide) (by omega) (by omega)
    exact T2_some (OuQ_z (I := fun _ => False) hM (FC_fe FE_er) (FC_fe FE_er) (UT_fe FE_er U1) (UT_fe FE_er U2) (Nat.le_refl _) z1 z2)
  have c50 : c < 50 := by
    have : c ≠ 50 := fun e => z50 (by rw [e]; rfl)
    omega
  have e214 : ∀ i, i < 60 → (214 : Int32) + 60 * nI c + nI i = nI (214 + 60 * c + i) := fun i hi => by
    rw [show (60 : Int32) * nI c = nI (60 * c) from n_mulN 60 c, show (214 : Int32) + nI (60 * c) = nI (214 + 60 * c) from n_add (p := 214) (by omega), n_add (by omega)]
  have e64 : (64 : Int32) + 3 * nI c = nI (64 + 3 * c) := by
    rw [show (3 : Int32) * nI c = nI (3 * c) from n_mulN 3 c]; exact n_add (p := 64) (by omega)
  -- the end: the frame is laid
  have b22 : ∀ (add : Nat) (π1 π2 : MS) (K1 K2 : Nat → Int32), add = suN (nwS ρ1 pr np t) 60 → StS ρ1 + suN (PtS ρ1) P' + add ≤ 40000 → CaS c n pr np t F.length add ρ1 π1 → CaS c n pr np t F.length add ρ2 π2 → K1 2 = nI pr → K2 2 = nI pr → T2 (fun k => x_beginCall k 23 K1 π1) (fun k => x_beginCall k 23 K2 π2) (fun r1 r2 => OuQ T FN S t w XC σ1 σ2 r1.2 r2.2) := by
    intro add π1 π2 K1 K2 ha hle q1 q2 k2 l2
    have W1 := UT_ca q1 U1 c50 (by omega) hc bb1 ha (fun i hi => by rw [r20]; exact hpf i hi) (fun P a b => by
      have : P = P' := (n_eq (by omega) (by omega)).mp (a.symm.trans u63)
      rw [this]; exact hle)
    have W2 := UT_ca q2 U2 c50 (by omega) k1 bb2 (by rw [sE]; exact ha) (fun i hi => by rw [s20]; exact hpf i hi) (fun P a b => by
      have : P = P' := (n_eq (by omega) (by omega)).mp (a.symm.trans v63)
      rw [this, eS, eR]; exact hle)
    have f1 := FC_ca q1 c50
    have f2 := FC_ca q2 c50
    have hK : Mid T FN S t w2 XC σ1 σ2 π1 π2 := Mid_fc hM f1 f2 (EI_ca q1 q2 hE c50 (by omega) hc) W1 W2
    have C1 := hK.2.2.2.1
    have C2 := hK.2.2.2.2.1
    obtain ⟨a1, a2, a3, a4, a5, a6, a7, a8, a9, a10, a11⟩ := q1
    have lv : LVs T S (π1.2.2 30) c un d v n F := LVs_cc (fun i a b => a11 i (by omega) (by omega) (by omega)) hLV
    have g2 : π1.2.2 30 2 = nI F.length := (a11 2 (by omega) (by omega) (by omega)).trans h2
    have g3 : π1.2.2 30 3 = nI (suI T F) := (a11 3 (by omega) (by omega) (by omega)).trans h3
    have gF : FSk T (π1.2.2 30) F := FSk_c (by omega) (fun i a b => a11 i (by omega) (by omega) (by omega)) hF
    have gI : ItS π1 (suI T F) := ItS_c (σ := ρ1) (by omega) (a5 28 (by decide)) (fun i hi => a11 i (by omega) (by omega) (by omega)) hIt
    have hIn : InP T S (c + 1) (1 + pr) 0 (-1) F π1 := ⟨by omega, a6, g2, gF, g3, gI, pb3, pb4, Or.inl ⟨rfl, rfl, Or.inr ⟨c, pr, un, d, v, n, rfl, rfl, by omega, a7, a8, a9, hk, y2, lv⟩⟩⟩
    have hy : T 17 pr = -1 ∨ ∃ b v', T 17 pr = nI b ∧ Pos T S (c + 1) (1 + pr) 0 v' b F π1 := by
      rcases h17 with z | ⟨b, v', xb, hSb⟩
      · exact Or.inl z
      · exact Or.inr ⟨b, v', xb, by omega, a6, ⟨hSb, pr, un, d, v, n, F, rfl, by omega, a7, a8, a9, hk, y2, rfl, lv⟩, g2, gF, g3, gI⟩
    refine T2_suc (fun k => by rw [x_beginCall]) (fun k => by rw [x_beginCall]) ?_
    rw [k2, l2]
    refine T2_chk (n_in (by omega) (by omega)) (n_in (by omega) (by omega)) ?_
    rw [n_cl (p := pr) (by omega), C1.2.1 17 _ (by omega) (by omega) (by omega), C2.2.1 17 _ (by omega) (by omega) (by omega)]
    exact T2_ob (E_enter hW hXC ht hw hK hIn hy rfl rfl rfl rfl) (fun s1 s2 hs => T2_some hs)
  -- slots are written
  have b17 : ∀ (add : Nat), add = suN (nwS ρ1 pr np t) 60 → StS ρ1 + suN (PtS ρ1) P' + add ≤ 40000 → ∀ (d i : Nat) (ν1 ν2 : MS) (K1 K2 : Nat → Int32), d + i = 60 → CaL c n pr np t F.length i (mSc ρ1 64 (ρ1.1 64 + nI add)) ν1 → CaL c n pr np t F.length i (mSc ρ2 64 (ρ2.1 64 + nI add)) ν2 → K1 2 = nI pr → K2 2 = nI pr → K1 3 = nI t → K2 3 = nI t → K1 6 = nI c → K2 6 = nI c → K1 7 = nI i → K2 7 = nI i → T2 (fun k => x_beginCall k 17 K1 ν1) (fun k => x_beginCall k 17 K2 ν2) (fun r1 r2 => OuQ T FN S t w XC σ1 σ2 r1.2 r2.2) := by
    intro add ha hle d
    induction d with
    | zero =>
      intro i ν1 ν2 K1 K2 hd q1 q2 k2 l2 k3 l3 k6 l6 k7 l7
      have ei : i = 60 := by omega
      subst ei
      refine T2_suc (fun k => by rw [x_beginCall]) (fun k => by rw [x_beginCall]) ?_
      rw [k7, l7]
      refine T2_ite Iff.rfl (fun _ _ => ?_) (fun z _ => absurd ((n_le (p := 60) (q := 60) (by decide) (by decide)).mpr (Nat.le_refl _)) z)
      refine T2_suc (fun k => by rw [x_beginCall]) (fun k => by rw [x_beginCall]) ?_
      rw [k3, l3]
      refine T2_suc (fun k => by rw [x_beginCall]) (fun k => by rw [x_beginCall]) ?_
      refine T2_chk (by decide) (by decide) ?_
      refine T2_chk (by decide) (by decide) ?_
      have p1 : ν1.2.2 30 1 = nI c := (q1.2.2.2.2.2.2.2 1 (by omega) (by omega)).trans hc
      have p2 : ν2.2.2 30 1 = nI c := (q2.2.2.2.2.2.2.2 1 (by omega) (by omega)).trans k1
      show T2 (fun k => x_beginCall k 23 K1 (mAr (mSc ν1 59 (nI t)) 30 (1 : Int32).toNatClampNeg (ν1.2.2 30 (1 : Int32).toNatClampNeg + 1))) (fun k => x_beginCall k 23 K2 (mAr (mSc ν2 59 (nI t)) 30 (1 : Int32).toNatClampNeg (ν2.2.2 30 (1 : Int32).toNatClampNeg + 1))) _
      rw [show (1 : Int32).toNatClampNeg = 1 from by decide, p1, p2, n_add1]
      have mk : ∀ (ρ ν : MS), CaL c n pr np t F.length 60 (mSc ρ 64 (ρ.1 64 + nI add)) ν → CaS c n pr np t F.length add ρ (mAr (mSc ν 59 (nI t)) 30 1 (nI (c + 1))) := fun ρ ν q => by
        obtain ⟨a1, a2, a3, a4, a5, a6, a7, a8⟩ := q
        have o : ∀ j, j ≠ 1 → (mAr (mSc ν 59 (nI t)) 30 1 (nI (c + 1))).2.2 30 j = ν.2.2 30 j := fun j hj => by rw [mAr_s, upd_other hj]; rfl
        refine ⟨fun j h1 h2 => ?_, rfl, ?_, a2, fun a ha => (mAr_o ha).trans (a3 a ha), by rw [mAr_s, upd_same], (o _ (by omega)).trans a4, (o _ (by omega)).trans a5, (o _ (by omega)).trans a6, fun j hj => (o _ (by omega)).trans (a7 j hj), fun j h1 h2 h3 => (o j h1).trans (a8 j h2 (by omega))⟩
        · show upd ν.1 59 (nI t) j = ρ.1 j
          rw [upd_other h1, a1]; exact upd_other h2
        · show upd ν.1 59 (nI t) 64 = _
          rw [upd_other (by decide), a1]; rfl
      exact b22 add _ _ _ _ ha hle (mk ρ1 ν1 q1) (mk ρ2 ν2 q2) k2 l2
    | succ d ih =>
      intro i ν1 ν2 K1 K2 hd q1 q2 k2 l2 k3 l3 k6 l6 k7 l7
      have i6 : i < 60 := by omega
      have r18 : ν1.2.2 18 pr = T 18 pr := (congrFun (q1.2.2.1 18 (by decide)) pr).trans (B1.2.1 18 pr (by omega) (by omega) (by omega))
      have s18 : ν2.2.2 18 pr = T 18 pr := (congrFun (q2.2.2.1 18 (by decide)) pr).trans (B2.2.1 18 pr (by omega) (by omega) (by omega))
      -- a write
      have b19 : ∀ (x y : Int32) (M1 M2 : Nat → Int32), x = (if i < np then ρ1.2.2 29 (t + i) else 0) → y = (if i < np then ρ2.2.2 29 (t + i) else 0) → M1 2 = nI pr → M2 2 = nI pr → M1 3 = nI t → M2 3 = nI t → M1 6 = nI c → M2 6 = nI c → M1 7 = nI i → M2 7 = nI i → M1 100 = x → M2 100 = y → M1 101 = nI (214 + 60 * c + i) → M2 101 = nI (214 + 60 * c + i) → T2 (fun k => x_beginCall k 19 M1 ν1) (fun k => x_beginCall k 19 M2 ν2) (fun r1 r2 => OuQ T FN S t w XC σ1 σ2 r1.2 r2.2) := by
        intro x y M1 M2 hx hy m2 o2 m3 o3 m6 o6 m7 o7 m100 o100 m101 o101
        refine T2_suc (fun k => by rw [x_beginCall]) (fun k => by rw [x_beginCall]) ?_
        rw [m101, o101, m100, o100]
        refine T2_chk (n_in (by omega) (by omega)) (n_in (by omega) (by omega)) ?_
        rw [n_cl (p := 214 + 60 * c + i) (by omega)]
        refine T2_suc (fun k => by rw [x_beginCall]) (fun k => by rw [x_beginCall]) ?_
        rw [m7, o7, n_add1]
        exact ih (i + 1) (mAr ν1 30 (214 + 60 * c + i) x) (mAr ν2 30 (214 + 60 * c + i) y) _ _ (by omega) (CaL_1 c50 i6 q1 hx) (CaL_1 c50 i6 q2 hy) m2 o2 m3 o3 m6 o6 rfl rfl
      refine T2_suc (fun k => by rw [x_beginCall]) (fun k => by rw [x_beginCall]) ?_
      rw [k7, l7, k2, l2, k6, l6, k3, l3, e214 i i6]
      refine T2_ite Iff.rfl (fun z _ => ?_) (fun _ _ => ?_)
      · have := (n_le (p := 60) (by decide) (by omega)).mp z
        omega
      refine T2_chk (n_in (by omega) (by omega)) (n_in (by omega) (by omega)) ?_
      rw [n_cl (p := pr) (by omega), r18, s18, y3]
      refine T2_ite Iff.rfl (fun z _ => ?_) (fun z _ => ?_)
      · have z := (n_le (by omega) (by omega)).mp z
        refine T2_suc (fun k => by rw [x_beginCall]) (fun k => by rw [x_beginCall]) ?_
        exact b19 0 0 _ _ (by rw [if_neg (by omega)]) (by rw [if_neg (by omega)]) k2 l2 k3 l3 k6 l6 k7 l7 rfl rfl rfl rfl
      · have z : i < np := by
          have : ¬ np ≤ i := fun y => z ((n_le (by omega) (by omega)).mpr y)
          omega
        rw [n_add (p := t) (by omega)]
        refine T2_chk (n_in (by omega) (by omega)) (n_in (by omega) (by omega)) ?_
        rw [n_cl (p := t + i) (by omega), q1.2.2.1 29 (by decide), q2.2.2.1 29 (by decide)]
        exact b19 (ρ1.2.2 29 (t + i)) (ρ2.2.2 29 (t + i)) _ _ (by rw [if_pos z]) (by rw [if_pos z]) k2 l2 k3 l3 k6 l6 k7 l7 rfl rfl rfl rfl
  -- sizes are added
  have b7 : ∀ (d i : Nat) (K1 K2 : Nat → Int32), d + i = ns → K1 1 = nI n → K2 1 = nI n → K1 2 = nI pr → K2 2 = nI pr → K1 3 = nI t → K2 3 = nI t → K1 5 = nI (suN (nwS ρ1 pr np t) i) → K2 5 = nI (suN (nwS ρ1 pr np t) i) → K1 6 = nI i → K2 6 = nI i → T2 (fun k => x_beginCall k 7 K1 ρ1) (fun k => x_beginCall k 7 K2 ρ2) (fun r1 r2 => OuQ T FN S t w XC σ1 σ2 r1.2 r2.2) := by
    intro d
    induction d with
    | zero =>
      intro i K1 K2 hd k1' l1' k2' l2' k3 l3 k5 l5 k6 l6
      have ei : i = ns := by omega
      subst ei
      have sb := sB i
      refine T2_suc (fun k => by rw [x_beginCall]) (fun k => by rw [x_beginCall]) ?_
      rw [k2', l2', k6, l6, e1p]
      refine T2_chk (n_in (by omega) (by omega)) (n_in (by omega) (by omega)) ?_
      rw [n_cl (p := 1 + pr) (by omega), B1.2.1 21 _ (by omega) (by omega) (by omega), B2.2.1 21 _ (by omega) (by omega) (by omega), y5]
      refine T2_ite Iff.rfl (fun _ _ => ?_) (fun z _ => absurd (Int32.le_refl _) z)
      have ar : ρ1.1 64 + ρ1.1 65 + nI (suN (nwS ρ1 pr np t) i) = nI (StS ρ1 + suN (PtS ρ1) P' + suN (nwS ρ1 pr np t) i) := by
        rw [u64, u65, n_add (by omega), n_add (by omega)]
      have ar2 : ρ2.1 64 + ρ2.1 65 + nI (suN (nwS ρ1 pr np t) i) = nI (StS ρ1 + suN (PtS ρ1) P' + suN (nwS ρ1 pr np t) i) := by
        rw [← al 64 (by unfold AlS; omega), ← al 65 (by unfold AlS; omega)]; exact ar
      refine T2_suc (fun k => by rw [x_beginCall]) (fun k => by rw [x_beginCall]) ?_
      rw [k5, l5, ar, ar2]
      refine T2_ite Iff.rfl (fun z _ => ?_) (fun _ _ => ?_)
      · have z := (n_le (q := 40000) (by omega) (by decide)).mp z
        refine T2_suc (fun k => by rw [x_beginCall]) (fun k => by rw [x_beginCall]) ?_
        rw [k5, l5]
        refine T2_suc (fun k => by rw [x_beginCall]) (fun k => by rw [x_beginCall]) ?_
        refine T2_chk (by decide) (by decide) ?_
        show T2 (fun k => if ¬ ((64 : Int32) + 3 * ρ1.2.2 30 (1 : Int32).toNatClampNeg < 0 ∨ 11514 ≤ ((64 : Int32) + 3 * ρ1.2.2 30 (1 : Int32).toNatClampNeg).toNatClampNeg) then x_beginCall k 14 (upd K1 6 (ρ1.2.2 30 (1 : Int32).toNatClampNeg)) (mAr (mSc ρ1 64 (ρ1.1 64 + nI (suN (nwS ρ1 pr np t) i))) 30 ((64 : Int32) + 3 * ρ1.2.2 30 (1 : Int32).toNatClampNeg).toNatClampNeg (K1 1)) else none) (fun k => if ¬ ((64 : Int32) + 3 * ρ2.2.2 30 (1 : Int32).toNatClampNeg < 0 ∨ 11514 ≤ ((64 : Int32) + 3 * ρ2.2.2 30 (1 : Int32).toNatClampNeg).toNatClampNeg) then x_beginCall k 14 (upd K2 6 (ρ2.2.2 30 (1 : Int32).toNatClampNeg)) (mAr (mSc ρ2 64 (ρ2.1 64 + nI (suN (nwS ρ1 pr np t) i))) 30 ((64 : Int32) + 3 * ρ2.2.2 30 (1 : Int32).toNatClampNeg).toNatClampNeg (K2 1)) else none) _
        rw [show (1 : Int32).toNatClampNeg = 1 from by decide, hc, k1, e64, k1', l1']
        refine T2_chk (n_in (by omega) (by omega)) (n_in (by omega) (by omega)) ?_
        rw [n_cl (p := 64 + 3 * c) (by omega)]
        have m2 : upd K1 6 (nI c) 2 = nI pr := k2'
        have o2' : upd K2 6 (nI c) 2 = nI pr := l2'
        have m3 : upd K1 6 (nI c) 3 = nI t := k3
        have o3' : upd K2 6 (nI c) 3 = nI t := l3
        have m6 : upd K1 6 (nI c) 6 = nI c := rfl
        have o6' : upd K2 6 (nI c) 6 = nI c := rfl
        generalize upd K1 6 (nI c) = J1 at *
        generalize upd K2 6 (nI c) = J2 at *
        have g1 : ∀ ρ : MS, (mSc ρ 64 (ρ.1 64 + nI (suN (nwS ρ1 pr np t) i))).2.2 30 = ρ.2.2 30 := fun _ => rfl
        have cal : ∀ (ρ : MS), CaL c n pr np t F.length 0 (mSc ρ 64 (ρ.1 64 + nI (suN (nwS ρ1 pr np t) i))) (mAr (mAr (mAr (mSc ρ 64 (ρ.1 64 + nI (suN (nwS ρ1 pr np t) i))) 30 (64 + 3 * c) (nI n)) 30 (65 + 3 * c) (nI pr)) 30 (66 + 3 * c) (nI F.length)) := fun ρ => by
          refine ⟨rfl, rfl, fun a ha => by rw [mAr_o ha, mAr_o ha, mAr_o ha], ?_, ?_, ?_, fun j hj => by omega, fun j h1 _ => ?_⟩
          · rw [mAr_s, upd_other (by omega), mAr_s, upd_other (by omega), mAr_s, upd_same]
          · rw [mAr_s, upd_other (by omega), mAr_s, upd_same]
          · rw [mAr_s, upd_same]
          · rw [mAr_s, upd_other (by omega), mAr_s, upd_other (by omega), mAr_s, upd_other (by omega)]
        have two : ∀ (ρ : MS), ρ.2.2 30 2 = nI F.length → (mAr (mAr (mSc ρ 64 (ρ.1 64 + nI (suN (nwS ρ1 pr np t) i))) 30 (64 + 3 * c) (nI n)) 30 (65 + 3 * c) (nI pr)).2.2 30 2 = nI F.length := fun ρ h => by
          rw [mAr_s, upd_other (by omega), mAr_s, upd_other (by omega)]; exact h
        have w1 := two ρ1 h2
        have w2' := two ρ2 k2
        have c1 := cal ρ1
        have c2 := cal ρ2
        refine T2_suc (fun k => by rw [x_beginCall]) (fun k => by rw [x_beginCall]) ?_
        rw [m6, o6', m2, o2', e64, n_add1]
        refine T2_chk (n_in (by omega) (by omega)) (n_in (by omega) (by omega)) ?_
        rw [n_cl (p := 64 + 3 * c + 1) (by omega), show 64 + 3 * c + 1 = 65 + 3 * c by omega]
        show T2 (fun k => x_beginCall k 15 J1 (mAr (mAr (mSc ρ1 64 (ρ1.1 64 + nI (suN (nwS ρ1 pr np t) i))) 30 (64 + 3 * c) (nI n)) 30 (65 + 3 * c) (nI pr))) (fun k => x_beginCall k 15 J2 (mAr (mAr (mSc ρ2 64 (ρ2.1 64 + nI (suN (nwS ρ1 pr np t) i))) 30 (64 + 3 * c) (nI n)) 30 (65 + 3 * c) (nI pr))) _
        refine T2_suc (fun k => by rw [x_beginCall]) (fun k => by rw [x_beginCall]) ?_
        refine T2_chk (by decide) (by decide) ?_
        rw [m6, o6', e64, show nI (64 + 3 * c) + 2 = nI (64 + 3 * c + 2) from n_add (q := 2) (by omega)]
        refine T2_chk (n_in (by omega) (by omega)) (n_in (by omega) (by omega)) ?_
        rw [n_cl (p := 64 + 3 * c + 2) (by omega), show 64 + 3 * c + 2 = 66 + 3 * c by omega, show (2 : Int32).toNatClampNeg = 2 from by decide, w1, w2']
        refine T2_suc (fun k => by rw [x_beginCall]) (fun k => by rw [x_beginCall]) ?_
        exact b17 (suN (nwS ρ1 pr np t) i) s60.symm z 60 0 _ _ _ _ (by omega) c1 c2 m2 o2' m3 o3' m6 o6' rfl rfl
      · refine T2_ob (T2_t (s_fail _ _) (s_fail _ _)) (fun y z hy => ?_)
        rw [hy.1, hy.2]
        obtain ⟨z1, z2⟩ := E_er (a := t) (b := 179400) (e := 6) (by omega) hE (by omega) (by decide) (by omega) (by omega)
        exact T2_some (OuQ_z (I := fun _ => False) hM (FC_fe FE_er) (FC_fe FE_er) (UT_fe FE_er U1) (UT_fe FE_er U2) (Nat.le_refl _) z1 z2)
    | succ d ih =>
      intro i K1 K2 hd k1' l1' k2' l2' k3 l3 k5 l5 k6 l6
      have i6 : i < 60 := by omega
      have sb := sB (i + 1)
      have pe : suN (nwS ρ1 pr np t) (i + 1) = suN (nwS ρ1 pr np t) i + nwS ρ1 pr np t i := rfl
      have b10 : ∀ (M1 M2 : Nat → Int32), M1 1 = nI n → M2 1 = nI n → M1 2 = nI pr → M2 2 = nI pr → M1 3 = nI t → M2 3 = nI t → M1 6 = nI i → M2 6 = nI i → M1 100 = nI (nwS ρ1 pr np t i) → M2 100 = nI (nwS ρ1 pr np t i) → M1 101 = nI (suN (nwS ρ1 pr np t) i) → M2 101 = nI (suN (nwS ρ1 pr np t) i) → T2 (fun k => x_beginCall k 10 M1 ρ1) (fun k => x_beginCall k 10 M2 ρ2) (fun r1 r2 => OuQ T FN S t w XC σ1 σ2 r1.2 r2.2) := by
        intro M1 M2 a1 c1 a2 c2 a3 c3 a6 c6 a100 c100 a101 c101
        refine T2_suc (fun k => by rw [x_beginCall]) (fun k => by rw [x_beginCall]) ?_
        rw [a100, c100, a101, c101, a6, c6, n_add1, n_add (by omega), ← pe]
        exact ih (i + 1) _ _ (by omega) a1 c1 a2 c2 a3 c3 rfl rfl rfl rfl
      refine T2_suc (fun k => by rw [x_beginCall]) (fun k => by rw [x_beginCall]) ?_
      rw [k2', l2', k6, l6, e1p, e60, n_add (p := 60 * (1 + pr)) (by omega), k5, l5]
      refine T2_chk (n_in (by omega) (by omega)) (n_in (by omega) (by omega)) ?_
      rw [n_cl (p := 1 + pr) (by omega), B1.2.1 21 _ (by omega) (by omega) (by omega), B2.2.1 21 _ (by omega) (by omega) (by omega), y5]
      refine T2_ite Iff.rfl (fun z _ => ?_) (fun _ _ => ?_)
      · have := (n_le (by omega) (by omega)).mp z
        omega
      refine T2_chk (n_in (by omega) (by omega)) (n_in (by omega) (by omega)) ?_
      rw [n_cl (p := 60 * (1 + pr) + i) (by omega), ← kC_in (σ := ρ1) (u := 1 + pr) (s := i) (by omega) (by rw [B1.2.1 21 _ (by omega) (by omega) (by omega), y5, n_cl (p := ns) (by omega)]; omega) (by have := STb_30 B1.1 y1; omega), ← kC_in (σ := ρ2) (u := 1 + pr) (s := i) (by omega) (by rw [B2.2.1 21 _ (by omega) (by omega) (by omega), y5, n_cl (p := ns) (by omega)]; omega) (by have := STb_30 B2.1 y1; omega), r20, s20]
      refine T2_ite Iff.rfl (fun z _ => ?_) (fun z _ => ?_)
      · have p0 : nwS ρ1 pr np t i = 0 := by unfold nwS; rw [r20, if_pos z]
        refine T2_suc (fun k => by rw [x_beginCall]) (fun k => by rw [x_beginCall]) ?_
        exact b10 _ _ k1' l1' k2' l2' k3 l3 k6 l6 (by rw [p0]; rfl) (by rw [p0]; rfl) rfl rfl
      · refine T2_chk (n_in (by omega) (by omega)) (n_in (by omega) (by omega)) ?_
        rw [n_cl (p := pr) (by omega), B1.2.1 18 _ (by omega) (by omega) (by omega), B2.2.1 18 _ (by omega) (by omega) (by omega), y3]
        refine T2_ite Iff.rfl (fun y _ => ?_) (fun y _ => ?_)
        · have y := (n_le (by omega) (by omega)).mp y
          have p0 : nwS ρ1 pr np t i = 1 := by unfold nwS; rw [r20, if_neg z, if_neg (by omega)]
          refine T2_suc (fun k => by rw [x_beginCall]) (fun k => by rw [x_beginCall]) ?_
          exact b10 _ _ k1' l1' k2' l2' k3 l3 k6 l6 (by rw [p0]; rfl) (by rw [p0]; rfl) rfl rfl
        · have y : i < np := by
            have : ¬ np ≤ i := fun q => y ((n_le (by omega) (by omega)).mpr q)
            omega
          obtain ⟨va, vb, a1, a2, a3, a4, a5, a6, a7⟩ := val i y
          have p0 : nwS ρ1 pr np t i = szN (ρ1.2.2 28) va := by unfold nwS; rw [r20, if_neg z, if_pos y, a1, n_cl (p := va) (by omega)]
          rw [k3, l3, n_add (p := t) (by omega)]
          refine T2_chk (n_in (by omega) (by omega)) (n_in (by omega) (by omega)) ?_
          rw [n_cl (p := t + i) (by omega), a1, a3]
          refine T2_ob (T2_t (s_size m1.1 a2 rfl) (s_size m2.1 a4 rfl)) (fun r1 r2 hr => ?_)
          rw [hr.1, hr.2, a5, ← p0]
          exact b10 _ _ k1' l1' k2' l2' k3 l3 k6 l6 rfl rfl rfl rfl
  refine T2_suc (fun k => by rw [x_beginCall]) (fun k => by rw [x_beginCall]) ?_
  exact b7 ns 0 _ _ (by omega) n1 o1 n2 o2 n3 o3 rfl rfl rfl rfl
/-- a call -/
theorem E_beginCall (hW : SWf T FN S) (hXC : XC ≤ 401000) (ht : t + 9 + KBn T ≤ w + 17000) {c un d v n w' : Nat} {F : List Nat} (hw : w ≤ w') (hM : Mid T FN S t w' XC σ1 σ2 τ1 τ2) (hP : Pos T S c un d v n F τ1) (hk : T 4 n = 45) (hCb : ∀ pr np, T 7 n = nI pr → pr < 41 → T 18 pr = nI np → np ≤ 8 → (∀ i, i < np → ¬ T 20 (60 * (1 + pr) + i) = 0) ∧ (T 17 pr = -1 ∨ ∃ b v', T 17 pr = nI b ∧ S (1 + pr) 0 v' b)) {L1 L2 : Nat → Int32} (d1 : L1 1 = nI n) (d2 : L2 1 = nI n) : T2 (fun k => x_beginCall k 0 L1 τ1) (fun k => x_beginCall k 0 L2 τ2) (fun r1 r2 => OuQ T FN S t w XC σ1 σ2 r1.2 r2.2) := by
  obtain ⟨hE, U1, U2, B1, B2, kp⟩ := id hM
  have w6 := EI_w hE
  obtain ⟨_, _, ⟨n7, _, _⟩, pb3, pb4⟩ := Pos_b hW hP
  obtain ⟨_, _, _, _, _, h45⟩ := hW un d v n (LVs_S hP.2.2.1)
  obtain ⟨pr, np, ns, y1, y2, y3, y4, y5, y6, y7, y8, y9⟩ := h45 hk
  obtain ⟨hpf, h17⟩ := hCb pr np y2 (by omega) y3 (by omega)
  have hSc := Pos_sc B1 hP
  obtain ⟨s1, s2⟩ := EI_59 hE
  have tb : ∀ (ρ1 ρ2 : MS), FE τ1 ρ1 → FE τ2 ρ2 → Bs T FN ρ1 ∧ Bs T FN ρ2 := fun ρ1 ρ2 f1 f2 => ⟨Bs_fc (I := fun _ => False) B1 (FC_fe f1), Bs_fc (I := fun _ => False) B2 (FC_fe f2)⟩
  have lp : ∀ (q i : Nat) (x : Int32) (ρ1 ρ2 : MS) (K1 K2 : Nat → Int32), q + i = np → ArL T FN (lcU un T) (cnU un T) pr q i x → FE τ1 ρ1 → FE τ2 ρ2 → ((∃ w2, w' ≤ w2 ∧ EI (t + i) w2 XC ρ1 ρ2) ∨ (EZ t (179300 + i) ρ1 ∧ EZ t (179300 + i) ρ2)) → K1 1 = nI n → K2 1 = nI n → K1 2 = nI pr → K2 2 = nI pr → K1 3 = nI t → K2 3 = nI t → K1 4 = nI i → K2 4 = nI i → K1 5 = x → K2 5 = x → T2 (fun k => x_beginCall k 1 K1 ρ1) (fun k => x_beginCall k 1 K2 ρ2) (fun r1 r2 => OuQ T FN S t w XC σ1 σ2 r1.2 r2.2) := by
    intro q
    induction q with
    | zero =>
      intro i x ρ1 ρ2 K1 K2 hq hL f1 f2 hor k1 l1 k2 l2 k3 l3 k4 l4 k5 l5
      have hL : x = -1 := hL
      have ei : i = np := by omega
      subst ei
      refine T2_suc (fun k => by rw [x_beginCall]) (fun k => by rw [x_beginCall]) ?_
      rw [k5, l5, hL]
      refine T2_ite Iff.rfl (fun _ _ => ?_) (fun z _ => absurd rfl z)
      rcases hor with ⟨w2, hw2, hJ⟩ | ⟨z1, z2⟩
      · exact E_call4 hW hXC ht (Nat.le_trans hw hw2) (Mid_fc (I := fun _ => False) hM (FC_fe f1) (FC_fe f2) hJ (UT_fe f1 U1) (UT_fe f2 U2)) (Pos_fs hW (FS_fe f1) hP) hk y1 y2 y3 y4 y5 y6 y7 hpf h17 k1 l1 k2 l2 k3 l3
      · refine T2_suc (fun k => by rw [x_beginCall]) (fun k => by rw [x_beginCall]) ?_
        refine T2_ite ⟨fun z => absurd z (EZ_le z1), fun z => absurd z (EZ_le z2)⟩ (fun z _ => absurd z (EZ_le z1)) (fun _ _ => ?_)
        exact T2_some (OuQ_z (I := fun _ => False) hM (FC_fe f1) (FC_fe f2) (UT_fe f1 U1) (UT_fe f2 U2) (by omega) z1 z2)
    | succ q ih =>
      intro i x ρ1 ρ2 K1 K2 hq hL f1 f2 hor k1 l1 k2 l2 k3 l3 k4 l4 k5 l5
      obtain ⟨e, xe, he, _, hX, hL⟩ := hL
      obtain ⟨C1, C2⟩ := tb ρ1 ρ2 f1 f2
      have e8 : (8 : Int32) * nI pr + nI i = nI (8 * pr + i) := by
        rw [show (8 : Int32) * nI pr = nI (8 * pr) from n_mulN 8 pr, n_add (by omega)]
      have h19 : (19 : Nat) ≠ 20 ∧ (19 ≤ 18 → 8 * pr + i < CNo T % 42) ∧ (19 = 19 → 8 * pr + i < 8 * (CNo T % 42) ∧ (8 * pr + i) % 8 < (T 18 ((8 * pr + i) / 8)).toNatClampNeg) ∧ (19 = 21 → 8 * pr + i ≤ CNo T % 42) := ⟨by decide, fun z => absurd z (by decide), fun _ => ⟨by omega, by rw [show (8 * pr + i) / 8 = pr by omega, y3, n_cl (p := np) (by omega)]; omega⟩, fun z => absurd z (by decide)⟩
      have b3 : ∀ (π1 π2 : MS), FE τ1 π1 → FE τ2 π2 → ((∃ w2, w' ≤ w2 ∧ EI (t + i + 1) w2 XC π1 π2) ∨ (EZ t (179300 + (i + 1)) π1 ∧ EZ t (179300 + (i + 1)) π2)) → T2 (fun k => x_beginCall k 3 K1 π1) (fun k => x_beginCall k 3 K2 π2) (fun r1 r2 => OuQ T FN S t w XC σ1 σ2 r1.2 r2.2) := by
        intro π1 π2 j1 j2 hor
        obtain ⟨D1, D2⟩ := tb π1 π2 j1 j2
        refine T2_suc (fun k => by rw [x_beginCall]) (fun k => by rw [x_beginCall]) ?_
        rw [k5, l5, k4, l4, xe, n_add1]
        refine T2_chk (n_in (by omega) (by omega)) (n_in (by omega) (by omega)) ?_
        rw [n_cl (p := e) (by omega), D1.1.1 9 _ (by omega) (by omega) (by omega), D2.1.1 9 _ (by omega) (by omega) (by omega)]
        exact ih (i + 1) (T 9 e) π1 π2 _ _ (by omega) hL j1 j2 hor k1 l1 k2 l2 k3 l3 rfl rfl rfl rfl
      refine T2_suc (fun k => by rw [x_beginCall]) (fun k => by rw [x_beginCall]) ?_
      rw [k5, l5, xe, k2, l2, k4, l4, e8]
      refine T2_ite Iff.rfl (fun z _ => absurd z (ne_m1 he)) (fun _ _ => ?_)
      refine T2_chk (n_in (by omega) (by omega)) (n_in (by omega) (by omega)) ?_
      rw [n_cl (p := 8 * pr + i) (by omega), C1.2.1 19 _ (by omega) (by omega) h19, C2.2.1 19 _ (by omega) (by omega) h19]
      refine T2_ite Iff.rfl (fun _ _ => ?_) (fun z _ => ?_)
      · refine T2_suc (fun k => by rw [x_beginCall]) (fun k => by rw [x_beginCall]) ?_
        rcases hor with ⟨w2, hw2, hJ⟩ | ⟨z1, z2⟩
        · obtain ⟨t1, t2⟩ := EI_59 hJ
          refine T2_ob (T2_t (s_push t1 (by omega) _) (s_push t2 (by omega) _)) (fun r1 r2 hr => ?_)
          rw [hr.1, hr.2]
          exact b3 _ _ (FE_tr f1 FE_pu) (FE_tr f2 FE_pu) (Or.inl ⟨w2, hw2, EI_pu0 (by omega) hJ⟩)
        · refine T2_ob (T2_t (s_pushZ z1 (by omega) _ rfl) (s_pushZ z2 (by omega) _ rfl)) (fun r1 r2 hr => ?_)
          exact b3 _ _ (FE_tr f1 hr.1.2) (FE_tr f2 hr.2.2) (Or.inr ⟨hr.1.1, hr.2.1⟩)
      · have hXe : Wx0 T FN (lcU un T) (nI e) := by rw [← xe]; exact hX z
        rcases hor with ⟨w2, hw2, hJ⟩ | ⟨z1, z2⟩
        · refine T2_ob (E_eval (by omega) (by omega) (Sc0_fe hSc.1 f1) hXe hJ rfl rfl) (fun r1 r2 hr => ?_)
          obtain ⟨j1, j2, hr⟩ := hr
          refine b3 _ _ (FE_tr f1 j1) (FE_tr f2 j2) (hr.imp (fun ⟨w3, h3, h⟩ => ⟨w3, by omega, h⟩) (fun ⟨a, b⟩ => ⟨EZ_mo a (by omega) (by omega), EZ_mo b (by omega) (by omega)⟩))
        · refine T2_ob (T2_t (s_evalZ C1.1 hXe (EZ_le z1) (EZ_e z1) rfl) (s_evalZ C2.1 hXe (EZ_le z2) (EZ_e z2) rfl)) (fun r1 r2 hr => ?_)
          rw [hr.1, hr.2]
          exact b3 _ _ f1 f2 (Or.inr ⟨EZ_mo z1 (Nat.le_refl _) (by omega), EZ_mo z2 (Nat.le_refl _) (by omega)⟩)
  refine T2_suc (fun k => by rw [x_beginCall]) (fun k => by rw [x_beginCall]) ?_
  rw [d1, d2]
  refine T2_chk (n_in (by omega) (by omega)) (n_in (by omega) (by omega)) ?_
  refine T2_chk (n_in (by omega) (by omega)) (n_in (by omega) (by omega)) ?_
  rw [n_cl (p := n) (by omega), B1.1.1 7 _ (by omega) (by omega) (by omega), B2.1.1 7 _ (by omega) (by omega) (by omega), B1.1.1 6 _ (by omega) (by omega) (by omega), B2.1.1 6 _ (by omega) (by omega) (by omega), s1, s2, y2]
  exact lp np 0 (T 6 n) τ1 τ2 _ _ (by omega) y8 FE_rf FE_rf (Or.inl ⟨w', Nat.le_refl _, hE⟩) d1 d2 rfl rfl rfl rfl rfl rfl rfl rfl
end BCL
end JnS259
section JnS260
/-! Statements on both sides (reference): back to a point. -/
/-- the state is brought back, up to i -/
def RbT (p i : Nat) (τ ρ : MS) : Prop := ρ.1 = τ.1 ∧ ρ.2.1 = τ.2.1 ∧ (∀ a, a ≠ 30 → ρ.2.2 a = τ.2.2 a) ∧ (∀ j, j < i → ρ.2.2 30 j = τ.2.2 31 (11514 * p + j)) ∧ ∀ j, i ≤ j → ρ.2.2 30 j = τ.2.2 30 j
theorem Rb_1 {p i : Nat} {τ ρ : MS} (h : RbT p i τ ρ) : RbT p (i + 1) τ (mAr ρ 30 i (τ.2.2 31 (11514 * p + i))) := by
  obtain ⟨h1, h2, h3, h4, h5⟩ := h
  refine ⟨h1, h2, fun a ha => (mAr_o ha).trans (h3 a ha), fun j hj => ?_, fun j hj => ?_⟩
  · rw [mAr_s]
    by_cases e : j = i
    · rw [e, upd_same]
    · rw [upd_other e]; exact h4 j (by omega)
  · rw [mAr_s, upd_other (by omega)]; exact h5 j (by omega)
/-- what going back leaves: the last point is taken -/
def RsT (p : Nat) (τ ρ : MS) : Prop := (∀ j, j ≠ 63 → j ≠ 64 → j ≠ 65 → ρ.1 j = τ.1 j) ∧ ρ.1 63 = nI p ∧ ρ.1 64 = τ.2.2 32 p ∧ ρ.1 65 = τ.1 65 - τ.2.2 32 p ∧ ρ.2.1 = τ.2.1 ∧ (∀ a, a ≠ 30 → ρ.2.2 a = τ.2.2 a) ∧ (∀ j, j < 11514 → ρ.2.2 30 j = τ.2.2 31 (11514 * p + j)) ∧ ∀ j, 11514 ≤ j → ρ.2.2 30 j = τ.2.2 30 j
section RST
variable {T : Nat → Nat → Int32} {FN : Nat → Nat → Prop} {S : Nat → Nat → Nat → Nat → Prop} {p t w XC : Nat} {τ ρ τ1 τ2 ρ1 ρ2 σ1 σ2 : MS}
theorem UT_rs (hM : RsT p τ ρ) (hU : UT τ) (hP : τ.1 63 = nI (p + 1)) (h20 : p < 20) : UT ρ := by
  obtain ⟨a1, a2, a3, a4, a5, a6, a7, a8⟩ := hM
  obtain ⟨h64, P', h63, hP', h65, h32, hl, o1, o2, o3, o4, o5⟩ := hU
  have eP : P' = p + 1 := (n_eq (by omega) (by omega)).mp (h63.symm.trans hP)
  subst eP
  have r28 := a6 28 (by decide)
  have r20 : kC ρ = kC τ := kC_r (a6 20 (by decide)) (a6 21 (by decide)) (a1 30 (by decide) (by decide) (by decide))
  have r31 := a6 31 (by decide)
  have es : suN (PtS τ) (p + 1) = suN (PtS τ) p + PtS τ p := rfl
  have sS : StS ρ = PtS τ p := by
    unfold StS PtS SzS
    rw [r28, r20]
    refine suN_c (fun i hi => (szP_c (b := 11514 * p) (b' := 0) ?_ ?_ (fun j h1 h2 => ?_) (fun _ => ?_)).2)
    · exact a7 1 (by omega)
    · exact a7 3 (by omega)
    · rw [Nat.zero_add]; exact a7 j (by omega)
    · rw [Nat.zero_add, a7 i hi]
  have sP : ∀ q, PtS ρ q = PtS τ q := fun q => by unfold PtS; rw [r28, r20, r31]
  have sP' : ∀ q, suN (PtS ρ) q = suN (PtS τ) q := fun q => suN_c (fun i _ => sP i)
  have nuC : ∀ i, NUa (kC τ) (ρ.2.2 30) 0 i → NUa (kC τ) (τ.2.2 31) (11514 * p) i := fun i n => by
    unfold NUa at n ⊢
    by_cases y : 214 ≤ i ∧ i < 3214
    · rw [Nat.zero_add, a7 (65 + 3 * ((i - 214) / 60)) (by omega)] at n; exact n
    · rcases n with z | z
      · exact Or.inl z
      · exact absurd ⟨z.1, z.2.1⟩ y
  refine ⟨?_, p, a2, by omega, ?_, fun q hq => ?_, ?_, fun i c n => ?_, fun q hq => ?_, ?_, ?_, fun q hq => ?_⟩
  · rw [a3, h32 p (by omega), sS]
  · rw [a4, h65, h32 p (by omega), n_sub (by omega) (by omega), sP', es, Nat.add_sub_cancel]
  · rw [a6 32 (by decide), sP]; exact h32 q (by omega)
  · rw [sS, sP']; omega
  · rw [r20] at n
    have n' := nuC i n
    have hi : i < 11514 := by rcases n with z | z <;> omega
    rw [a7 i hi]
    refine o2 p (by omega) i ?_ n'
    unfold StI at c ⊢
    rw [show (0 + 1) = 1 from rfl, show (0 + 3) = 3 from rfl, a7 1 (by omega), a7 3 (by omega)] at c
    omega
  · rw [r31, r20]; exact o2 q (by omega)
  · rw [a6 33 (by decide)]; exact o3
  · exact CWa_c (o5 p (by omega)).1 (a7 1 (by omega)) (fun j h1 h2 => by rw [Nat.zero_add]; exact a7 j (by omega))
  · rw [r31]; exact ⟨(o5 q (by omega)).1, ItP_c r28 (fun j _ => by rw [r31]) (o5 q (by omega)).2⟩
theorem EI_rs (m1 : RsT p τ1 ρ1) (m2 : RsT p τ2 ρ2) (hE : EI t w XC τ1 τ2) (hP : τ1.1 63 = nI (p + 1)) (h20 : p < 20) : EI t w XC ρ1 ρ2 := by
  have hE0 := hE
  obtain ⟨g1, l1, B1, h1, X1, g2, l2, B2, h2, X2, n1, n2, hR, _, _, t1, _⟩ := hE0
  obtain ⟨a1, a2, a3, a4, a5, a6, a7, a8⟩ := m1
  obtain ⟨b1, b2, b3, b4, b5, b6, b7, b8⟩ := m2
  have al : ∀ j, AlS j → τ1.1 j = τ2.1 j := hR.2.2.1
  have r32 : ∀ j, j < p + 1 → τ1.2.2 32 j = τ2.2.2 32 j := fun j hj => hR.2.1 32 j (by unfold AlR; omega) (by unfold Zn; omega) (fun y => by unfold InA at y; rw [hP, n_cl (p := p + 1) (by omega)] at y; omega)
  obtain ⟨P', e, y1, y2, y3, y4, y5, y6⟩ := n1.2.1
  have eP : P' = p + 1 := (n_eq (by omega) (by omega)).mp (y1.symm.trans hP)
  subst eP
  obtain ⟨c, q, z1, z2, z3, z4⟩ := y6 p (by omega)
  refine EI_mv hE (fun j hj => a1 j (by omega) (by omega) (by omega)) (fun j hj => b1 j (by omega) (by omega) (by omega)) a5 b5 (fun a _ h _ _ _ => a6 a h) (fun a _ h _ _ _ => b6 a h) ((a1 59 (by decide) (by decide) (by decide)).trans t1) ?_ (fun j hj hn => ?_) (fun j hj hn => ?_) (fun j hn => ?_) (fun j hj => ?_) (fun a j ha z => ?_)
  · refine ⟨p, e, a2, by omega, (a1 72 (by decide) (by decide) (by decide)).trans y3, y4, ⟨c, q, (a7 1 (by omega)).trans z1, z2, (a7 3 (by omega)).trans z3, z4⟩, fun q' hq => ?_⟩
    rw [a6 31 (by decide)]; exact y6 q' (by omega)
  · by_cases e : j < 11514
    · rw [a7 j e, b7 j e]
      refine hR.2.1 31 _ (by unfold AlR; omega) (fun z => hj ?_) (fun y => hn ?_)
      · unfold Zn at z ⊢; omega
      · unfold InA at y ⊢
        rw [show (11514 * p + j) / 11514 = p by omega, show (11514 * p + j) % 11514 = j by omega, hP, n_cl (p := p + 1) (by omega)] at y
        rcases y with y | y | y
        · omega
        · rcases y.2 with y | y
          · omega
          · refine Or.inl ⟨rfl, ?_⟩
            unfold IaN at y ⊢
            rw [Nat.zero_add, Nat.zero_add, Nat.zero_add, a7 1 (by omega), a7 2 (by omega), a7 3 (by omega)]
            exact y
        · omega
    · refine absurd ?_ hn
      unfold InA IaN
      rw [Nat.zero_add, Nat.zero_add, Nat.zero_add, a7 3 (by omega), z3, n_cl (p := q) (by omega)]
      omega
  · rw [a6 31 (by decide), b6 31 (by decide)]
    refine hR.2.1 31 j (by unfold AlR; omega) hj (fun y => hn ?_)
    unfold InA at y ⊢
    rw [a2, a6 31 (by decide), n_cl (p := p) (by omega)]
    rw [hP, n_cl (p := p + 1) (by omega)] at y
    rcases y with y | y | y
    · omega
    · refine Or.inr (Or.inl ⟨rfl, ?_⟩)
      rcases y.2 with y | y
      · exact Or.inl (by omega)
      · exact Or.inr y
    · omega
  · rw [a6 32 (by decide), b6 32 (by decide)]
    refine r32 j (Classical.byContradiction (fun c => hn ?_))
    unfold InA
    rw [a2, n_cl (p := p) (by omega)]
    exact Or.inr (Or.inr (Or.inl ⟨rfl, by omega⟩))
  · by_cases e3 : j = 63
    · rw [e3, a2, b2]
    by_cases e4 : j = 64
    · rw [e4, a3, b3, r32 p (by omega)]
    by_cases e5 : j = 65
    · rw [e5, a4, b4, r32 p (by omega), al 65 (by unfold AlS; omega)]
    rw [a1 j e3 e4 e5, b1 j e3 e4 e5]; exact al j hj
  · rcases z with z | ⟨z, y⟩ | ⟨z, q', hq, y⟩ | z | z
    · refine Or.inl ⟨29, j, by unfold VwR; omega, Or.inl ⟨rfl, z.2⟩, ?_, ?_⟩
      · rw [z.1, a6 29 (by decide)]
      · rw [z.1, b6 29 (by decide)]
    · subst z
      unfold StI at y
      rw [show (0 + 1) = 1 from rfl, show (0 + 3) = 3 from rfl, a7 1 (by omega), a7 3 (by omega), z1, z3, n_cl (p := c) (by omega), n_cl (p := q) (by omega)] at y
      have hj : j < 11514 := by omega
      refine Or.inl ⟨31, 11514 * p + j, by unfold VwR; omega, Or.inr (Or.inr (Or.inl ⟨rfl, p, ?_, ?_⟩)), a7 j hj, b7 j hj⟩
      · rw [hP, n_cl (p := p + 1) (by omega)]; omega
      · unfold StI
        rw [z1, z3, n_cl (p := c) (by omega), n_cl (p := q) (by omega)]; omega
    · subst z
      rw [a2, n_cl (p := p) (by omega)] at hq
      rw [a6 31 (by decide)] at y
      refine Or.inl ⟨31, j, by unfold VwR; omega, Or.inr (Or.inr (Or.inl ⟨rfl, q', ?_, y⟩)), by rw [a6 31 (by decide)], by rw [b6 31 (by decide)]⟩
      rw [hP, n_cl (p := p + 1) (by omega)]; omega
    · refine Or.inl ⟨a, j, by unfold VwR; omega, Or.inr (Or.inr (Or.inr (Or.inl z))), ?_, ?_⟩
      · rw [a6 a (by omega)]
      · rw [b6 a (by omega)]
    · have : a = 34 ∨ a = 36 ∨ a = 37 ∨ a = 38 ∨ a = 40 := by omega
      omega
theorem Mid_rs (m1 : RsT p τ1 ρ1) (m2 : RsT p τ2 ρ2) (hM : Mid T FN S t w XC σ1 σ2 τ1 τ2) (hP : τ1.1 63 = nI (p + 1)) (hP2 : τ2.1 63 = nI (p + 1)) (h20 : p < 20) : Mid T FN S t w XC σ1 σ2 ρ1 ρ2 := by
  obtain ⟨hE, U1, U2, B1, B2, kp, pq, o, o1, o2⟩ := hM
  have w6 := EI_w hE
  have bs : ∀ (τ ρ : MS), RsT p τ ρ → Bs T FN τ → Bs T FN ρ := fun τ ρ m b => by
    obtain ⟨a1, a2, a3, a4, a5, a6, a7, a8⟩ := m
    obtain ⟨b0, b2, b3, b4, b5, b6, b7⟩ := b
    exact ⟨STb_b b0 (fun j hj => a1 j (by omega) (by omega) (by omega)) (fun a i q => by rw [a6 a (by omega)]), fun a i h1 h2 h3 => by rw [a6 a (by omega)]; exact b2 a i h1 h2 h3, (a1 67 (by decide) (by decide) (by decide)).trans b3, (a1 97 (by decide) (by decide) (by decide)).trans b4, (a1 72 (by decide) (by decide) (by decide)).trans b5, (a1 69 (by decide) (by decide) (by decide)).trans b6, fun i => (congrFun (kC_r (a6 20 (by decide)) (a6 21 (by decide)) (a1 30 (by decide) (by decide) (by decide))) i).trans (b7 i)⟩
  refine ⟨EI_rs m1 m2 hE hP h20, UT_rs m1 U1 hP h20, UT_rs m2 U2 hP2 h20, bs _ _ m1 B1, bs _ _ m2 B2, fun j hj => ⟨(m1.1 j (by omega) (by omega) (by omega)).trans (kp j hj).1, (m2.1 j (by omega) (by omega) (by omega)).trans (kp j hj).2⟩, fun q hq => ?_, o, (m1.1 106 (by decide) (by decide) (by decide)).trans o1, o2⟩
  rw [m1.2.1, n_cl (p := p) (by omega)] at hq
  have r31 := m1.2.2.2.2.2.1 31 (by decide)
  rw [r31]
  exact pq q (by rw [hP, n_cl (p := p + 1) (by omega)]; omega)
/-- the place of the point -/
theorem Pos_rs (hW : SWf T FN S) (m : RsT p τ ρ) (hU : UT τ) (pq : PtQ T S τ) (hP : τ.1 63 = nI (p + 1)) (h20 : p < 20) : ∃ c un d v n F, Pos T S c un d v n F ρ ∧ ρ.2.2 30 0 = nI n ∧ (T 4 n = 44 ∨ T 4 n = 46) := by
  obtain ⟨a1, a2, a3, a4, a5, a6, a7, a8⟩ := m
  obtain ⟨c, un, d, v, n, F, h1, h2, h3⟩ := pq p (by rw [hP, n_cl (p := p + 1) (by omega)]; omega)
  obtain ⟨g1, g2, g3, g4, g5, g6, g7⟩ := PlA_c (A' := ρ.2.2 30) h1 (fun i hi => a7 i (by omega))
  obtain ⟨h64, P', h63, hP', h65, h32, hl, o1, o2, o3, o4, o5⟩ := hU
  have eP : P' = p + 1 := (n_eq (by omega) (by omega)).mp (h63.symm.trans hP)
  subst eP
  obtain ⟨q, q1, q2, q3⟩ := (o5 p (by omega)).2
  refine ⟨c, un, d, v, n, F, ⟨g1, g2, g3, g4, g5, g6, fun i hi => ?_⟩, (a7 0 (by omega)).trans h2, h3⟩
  have r28 := a6 28 (by decide)
  have x3 : τ.2.2 31 (11514 * p + 3) = nI (suI T F) := h1.2.2.2.2.2.1
  have bd := (LVs_b hW h1.2.2.1).2
  have vb := (hW un d v n (LVs_S h1.2.2.1)).1
  have cb := h1.1
  have eq : q = suI T F := (n_eq (by omega) (by omega)).mp (q1.symm.trans x3)
  have qi := q3 i (by omega)
  have e : szV ρ 30 (5314 + i) = szV τ 31 (11514 * p + (5314 + i)) := by unfold szV; rw [r28, a7 (5314 + i) (by omega)]
  rw [e, a7 (8414 + i) (by omega)]; exact qi
/-- row 30 is brought back -/
theorem E_bring (hP : τ1.1 63 = nI p) (hP2 : τ2.1 63 = nI p) (h20 : p < 20) {Q : Int32 × MS → Int32 × MS → Prop} (hQ : ∀ (ρ1 ρ2 : MS) (N1 N2 : Nat → Int32), RbT p 11514 τ1 ρ1 → RbT p 11514 τ2 ρ2 → T2 (fun k => x_backTrack k 7 N1 (mSc ρ1 64 (τ1.2.2 32 p))) (fun k => x_backTrack k 7 N2 (mSc ρ2 64 (τ2.2.2 32 p))) Q) : ∀ (d i : Nat) (ρ1 ρ2 : MS) (N1 N2 : Nat → Int32), d + i = 11514 → RbT p i τ1 ρ1 → RbT p i τ2 ρ2 → N1 1 = nI i → N2 1 = nI i → T2 (fun k => x_backTrack k 4 N1 ρ1) (fun k => x_backTrack k 4 N2 ρ2) Q := by
  intro d
  induction d with
  | zero =>
    intro i ρ1 ρ2 N1 N2 hd hC hD n2 o2
    have ei : i = 11514 := by omega
    subst ei
    obtain ⟨h1, h2, h3, h4, h5⟩ := id hC
    obtain ⟨k1, k2, k3, k4, k5⟩ := id hD
    refine T2_suc (fun k => by rw [x_backTrack]) (fun k => by rw [x_backTrack]) ?_
    rw [n2, o2]
    refine T2_ite Iff.rfl (fun _ _ => ?_) (fun z _ => absurd ((n_le (p := 11514) (q := 11514) (by decide) (by decide)).mpr (Nat.le_refl _)) z)
    refine T2_suc (fun k => by rw [x_backTrack]) (fun k => by rw [x_backTrack]) ?_
    rw [show ρ1.1 63 = nI p from by rw [h1]; exact hP, show ρ2.1 63 = nI p from by rw [k1]; exact hP2]
    refine T2_chk (n_in (by omega) (by omega)) (n_in (by omega) (by omega)) ?_
    rw [n_cl (p := p) (by omega), h3 32 (by decide), k3 32 (by decide)]
    exact hQ ρ1 ρ2 _ _ hC hD
  | succ d ih =>
    intro i ρ1 ρ2 N1 N2 hd hC hD n2 o2
    obtain ⟨h1, h2, h3, h4, h5⟩ := id hC
    obtain ⟨k1, k2, k3, k4, k5⟩ := id hD
    refine T2_suc (fun k => by rw [x_backTrack]) (fun k => by rw [x_backTrack]) ?_
    rw [n2, o2]
    refine T2_ite Iff.rfl (fun z _ => ?_) (fun _ _ => ?_)
    · have := (n_le (p := 11514) (by decide) (by omega)).mp z
      omega
    rw [show ρ1.1 63 = nI p from by rw [h1]; exact hP, show ρ2.1 63 = nI p from by rw [k1]; exact hP2, show (11514 : Int32) * nI p = nI (11514 * p) from n_mulN 11514 p, n_add (p := 11514 * p) (by omega)]
    refine T2_chk (n_in (by omega) (by omega)) (n_in (by omega) (by omega)) ?_
    refine T2_chk (n_in (by omega) (by omega)) (n_in (by omega) (by omega)) ?_
    rw [n_cl (p := i) (by omega), n_cl (p := 11514 * p + i) (by omega), h3 31 (by decide), k3 31 (by decide)]
    refine T2_suc (fun k => by rw [x_backTrack]) (fun k => by rw [x_backTrack]) ?_
    rw [n2, o2, n_add1]
    exact ih (i + 1) (mAr ρ1 30 i (τ1.2.2 31 (11514 * p + i))) (mAr ρ2 30 i (τ2.2.2 31 (11514 * p + i))) _ _ (by omega) (Rb_1 hC) (Rb_1 hD) rfl rfl
end RST
/-- a name is given a truth: the statement is passed -/
theorem VC_tr {g1 g2 : Nat → Prop} {H1 H2 : Nat → Int32} {c : Nat} (hc : c < 3) : VC g1 g2 H1 H2 (nI c) (nI c) := ⟨c, c, rfl, Or.inl hc, rfl, Or.inl hc, EVb_0 hc, by omega, by omega⟩
section BTK
variable {T : Nat → Nat → Int32} {FN : Nat → Nat → Prop} {S : Nat → Nat → Nat → Nat → Prop} {t w XC : Nat} {τ1 τ2 σ1 σ2 : MS}
theorem E_asgP (hW : SWf T FN S) (hXC : XC ≤ 401000) (ht : t + 9 + KBn T ≤ w + 17000) {c un d v n a s w' e : Nat} {F : List Nat} (he : e < 3) (hw : w ≤ w') (hM : Mid T FN S t w' XC σ1 σ2 τ1 τ2) (hP : Pos T S c un d v n F τ1) (hn : NmW T (lcU un T) (cnU un T) a s) {L1 L2 M1 M2 : Nat → Int32} (d1 : L1 1 = nI a) (d2 : L2 1 = nI a) (x1 : L1 2 = nI e) (x2 : L2 2 = nI e) (q1 : M1 1 = nI n) (q2 : M2 1 = nI n) : T2 (fun k => ob (x_assign k 0 L1 τ1) (fun r => x_pass k 0 M1 r.2)) (fun k => ob (x_assign k 0 L2 τ2) (fun r => x_pass k 0 M2 r.2)) (fun r1 r2 => OuQ T FN S t w XC σ1 σ2 r1.2 r2.2) := by
  obtain ⟨hE, U1, U2, B1, B2, kp⟩ := id hM
  have w6 := EI_w hE
  have hSc := Pos_sc B1 hP
  refine T2_ob (E_assign (by omega) hSc hE U1 U2 hn (fun _ _ _ _ _ _ _ _ _ _ _ => ⟨VC_tr he, ⟨e, rfl, Or.inl he⟩, ⟨e, rfl, Or.inl he⟩⟩) d1 d2 x1 x2) (fun r1 r2 hr => ?_)
  obtain ⟨c1, c2, c3, c4, c5⟩ := hr
  rcases c5 with ⟨w2, hw2, hJ⟩ | ⟨z1, z2⟩
  · exact E_pass hW hXC ht (Nat.le_trans hw hw2) (Mid_fc (I := fun _ => False) hM (FC_fs c1) (FC_fs c2) hJ c3 c4) (Pos_fs hW c1 hP) q1 q2
  · refine T2_mono (T2_t (s_passZ (EZ_e z1)) (s_passZ (EZ_e z2))) (fun s1 s2 hs => ?_)
    rw [hs.1, hs.2]
    exact OuQ_z (I := fun _ => False) hM (FC_fs c1) (FC_fs c2) c3 c4 (by omega) z1 z2
/-- statements by their kinds -/
def SPt (T : Nat → Nat → Int32) (FN : Nat → Nat → Prop) (S : Nat → Nat → Nat → Nat → Prop) : Prop := ∀ un d v n, S un d v n → (T 4 n = 44 → ∃ a s, T 5 n = nI a ∧ NmW T (lcU un T) (cnU un T) a s) ∧ (T 4 n = 46 → ∃ q, BrL T FN S un d v n (q + 1) (T 5 n))
/-- back to the last point -/
theorem E_backTrack (hW : SWf T FN S) (hK : SPt T FN S) (hXC : XC ≤ 401000) (ht : t + 9 + KBn T ≤ w + 17000) {w' : Nat} (hw : w ≤ w') (hM : Mid T FN S t w' XC σ1 σ2 τ1 τ2) {L1 L2 : Nat → Int32} : T2 (fun k => x_backTrack k 0 L1 τ1) (fun k => x_backTrack k 0 L2 τ2) (fun r1 r2 => OuQ T FN S t w XC σ1 σ2 r1.2 r2.2) := by
  obtain ⟨hE, U1, U2, B1, B2, kp, pq, ou⟩ := id hM
  have w6 := EI_w hE
  obtain ⟨_, P, h63, hP20, _⟩ := id U1
  have k63 : τ2.1 63 = nI P := by
    obtain ⟨g1, l1, B1, h1, X1, g2, l2, B2, h2, X2, _, _, hR, _⟩ := hE
    exact (hR.2.2.1 63 (by unfold AlS; omega)).symm.trans h63
  refine T2_suc (fun k => by rw [x_backTrack]) (fun k => by rw [x_backTrack]) ?_
  rw [h63, k63]
  refine T2_ite Iff.rfl (fun _ _ => ?_) (fun z _ => ?_)
  · refine T2_ob (T2_t (s_fail _ _) (s_fail _ _)) (fun y z hy => ?_)
    rw [hy.1, hy.2]
    obtain ⟨z1, z2⟩ := E_er (a := t) (b := 179400) (e := 10) (by omega) hE (by omega) (by decide) (Nat.le_refl _) (by omega)
    exact T2_some (OuQ_z (I := fun _ => False) hM (FC_fe FE_er) (FC_fe FE_er) (UT_fe FE_er U1) (UT_fe FE_er U2) (Nat.le_refl _) z1 z2)
  obtain ⟨p, rfl⟩ : ∃ p, P = p + 1 := ⟨P - 1, by
    have : P ≠ 0 := fun e => z (by rw [e]; rfl)
    omega⟩
  refine T2_suc (fun k => by rw [x_backTrack]) (fun k => by rw [x_backTrack]) ?_
  rw [h63, k63, n_sub1 (by omega)]
  refine T2_suc (fun k => by rw [x_backTrack]) (fun k => by rw [x_backTrack]) ?_
  show T2 (fun k => if ¬ (nI p < 0 ∨ 20 ≤ (nI p).toNatClampNeg) then x_backTrack k 3 L1 (mSc (mSc τ1 63 (nI p)) 65 (τ1.1 65 - τ1.2.2 32 (nI p).toNatClampNeg)) else none) (fun k => if ¬ (nI p < 0 ∨ 20 ≤ (nI p).toNatClampNeg) then x_backTrack k 3 L2 (mSc (mSc τ2 63 (nI p)) 65 (τ2.1 65 - τ2.2.2 32 (nI p).toNatClampNeg)) else none) _
  refine T2_chk (n_in (by omega) (by omega)) (n_in (by omega) (by omega)) ?_
  rw [n_cl (p := p) (by omega)]
  refine T2_suc (fun k => by rw [x_backTrack]) (fun k => by rw [x_backTrack]) ?_
  have rb0 : ∀ τ : MS, RbT p 0 τ τ := fun τ => ⟨rfl, rfl, fun _ _ => rfl, fun j hj => by omega, fun _ _ => rfl⟩
  refine E_bring (τ1 := mDp p τ1) (τ2 := mDp p τ2) mDp_63 mDp_63 (by omega) (fun ρ1 ρ2 N1 N2 hC hD => ?_) 11514 0 (mDp p τ1) (mDp p τ2) _ _ (by omega) (rb0 _) (rb0 _) rfl rfl
  have rs : ∀ (τ ρ : MS), RbT p 11514 (mDp p τ) ρ → RsT p τ (mSc ρ 64 (τ.2.2 32 p)) := fun τ ρ q => by
    obtain ⟨a1, a2, a3, a4, a5⟩ := q
    refine ⟨fun j h3 h4 h5 => ?_, ?_, rfl, ?_, a2, a3, a4, a5⟩
    · show upd ρ.1 64 (τ.2.2 32 p) j = τ.1 j
      rw [upd_other h4, a1]; exact mDp_s ⟨h3, h5⟩
    · show upd ρ.1 64 (τ.2.2 32 p) 63 = nI p
      rw [upd_other (by decide), a1]; rfl
    · show upd ρ.1 64 (τ.2.2 32 p) 65 = τ.1 65 - τ.2.2 32 p
      rw [upd_other (by decide), a1]; rfl
  have m1 := rs τ1 ρ1 hC
  have m2 := rs τ2 ρ2 hD
  show T2 (fun k => x_backTrack k 7 N1 (mSc ρ1 64 (τ1.2.2 32 p))) (fun k => x_backTrack k 7 N2 (mSc ρ2 64 (τ2.2.2 32 p))) _
  generalize mSc ρ1 64 (τ1.2.2 32 p) = ν1 at *
  generalize mSc ρ2 64 (τ2.2.2 32 p) = ν2 at *
  have hN := Mid_rs m1 m2 hM h63 k63 (by omega)
  obtain ⟨c, un, d, v, n, F, hP, n0, kn⟩ := Pos_rs hW m1 U1 pq h63 (by omega)
  have n0' : ν2.2.2 30 0 = nI n := (EI_30 hN.1 (by unfold Zn; omega) (InA_4 (by omega))).trans n0
  have C1 := hN.2.2.2.1
  have C2 := hN.2.2.2.2.1
  obtain ⟨_, _, ⟨n7, _, _⟩, _, _⟩ := Pos_b hW hP
  obtain ⟨hk4, hk6⟩ := hK un d v n (LVs_S hP.2.2.1)
  have fin9 : ∀ (s1 s2 : MS) (K1 K2 : Nat → Int32), OuQ T FN S t w XC σ1 σ2 s1 s2 → T2 (fun k => x_backTrack k 9 K1 s1) (fun k => x_backTrack k 9 K2 s2) (fun r1 r2 => OuQ T FN S t w XC σ1 σ2 r1.2 r2.2) := fun s1 s2 K1 K2 h => T2_suc (fun k => by rw [x_backTrack]) (fun k => by rw [x_backTrack]) (T2_some h)
  refine T2_suc (fun k => by rw [x_backTrack]) (fun k => by rw [x_backTrack]) ?_
  refine T2_chk (by decide) (by decide) ?_
  rw [show (0 : Int32).toNatClampNeg = 0 from by decide, n0, n0']
  refine T2_chk (n_in (by omega) (by omega)) (n_in (by omega) (by omega)) ?_
  rw [n_cl (p := n) (by omega), C1.1.1 4 _ (by omega) (by omega) (by omega), C2.1.1 4 _ (by omega) (by omega) (by omega)]
  refine T2_ite Iff.rfl (fun k44 _ => ?_) (fun k44 _ => ?_)
  · obtain ⟨a, s, xa, hn⟩ := hk4 k44
    refine T2_chk (n_in3 (by omega) (by omega)) (n_in3 (by omega) (by omega)) ?_
    rw [C1.1.1 5 _ (by omega) (by omega) (by omega), C2.1.1 5 _ (by omega) (by omega) (by omega), xa]
    have as : ∀ (f : Nat → Option (Int32 × MS)) (g : Nat → Int32 × MS → Option (Int32 × MS)) (h : Nat → Int32 × MS → Option (Int32 × MS)), (fun k => ob (f k) (fun r5 => ob (g k r5) (fun r6 => h k r6))) = (fun k => ob (ob (f k) (fun r5 => g k r5)) (fun r6 => h k r6)) := fun f g h => by
      funext k
      cases f k with
      | none => rfl
      | some r => rfl
    rw [as (fun k => x_assign k 0 (upd (upd (fun _ => 0) 1 (nI a)) 2 1) ν1) (fun k r5 => x_pass k 0 (upd (fun _ => 0) 1 (nI n)) r5.2) (fun k r6 => x_backTrack k 9 (upd N1 1 (nI n)) r6.2), as (fun k => x_assign k 0 (upd (upd (fun _ => 0) 1 (nI a)) 2 1) ν2) (fun k r5 => x_pass k 0 (upd (fun _ => 0) 1 (nI n)) r5.2) (fun k r6 => x_backTrack k 9 (upd N2 1 (nI n)) r6.2)]
    exact T2_ob (E_asgP (e := 1) hW hXC ht (by omega) hw hN hP hn rfl rfl rfl rfl rfl rfl) (fun s1 s2 hs => fin9 _ _ _ _ hs)
  · have k46 : T 4 n = 46 := kn.resolve_left k44
    obtain ⟨q, e, xe, he, _, _, hB⟩ := hk6 k46
    refine T2_suc (fun k => by rw [x_backTrack]) (fun k => by rw [x_backTrack]) ?_
    show T2 (fun k => if ¬ (nI n < 0 ∨ 70000 ≤ (nI n).toNatClampNeg) then (if ¬ (ν1.2.2 5 (nI n).toNatClampNeg < 0 ∨ 70000 ≤ (ν1.2.2 5 (nI n).toNatClampNeg).toNatClampNeg) then (ob (x_decide k 0 (upd (upd (fun _ => 0) 1 (nI n)) 2 (ν1.2.2 9 (ν1.2.2 5 (nI n).toNatClampNeg).toNatClampNeg)) ν1) (fun r3 => x_backTrack k 9 (upd N1 1 (nI n)) r3.2)) else none) else none) (fun k => if ¬ (nI n < 0 ∨ 70000 ≤ (nI n).toNatClampNeg) then (if ¬ (ν2.2.2 5 (nI n).toNatClampNeg < 0 ∨ 70000 ≤ (ν2.2.2 5 (nI n).toNatClampNeg).toNatClampNeg) then (ob (x_decide k 0 (upd (upd (fun _ => 0) 1 (nI n)) 2 (ν2.2.2 9 (ν2.2.2 5 (nI n).toNatClampNeg).toNatClampNeg)) ν2) (fun r3 => x_backTrack k 9 (upd N2 1 (nI n)) r3.2)) else none) else none) _
    refine T2_chk (n_in (by omega) (by omega)) (n_in (by omega) (by omega)) ?_
    rw [n_cl (p := n) (by omega), C1.1.1 5 _ (by omega) (by omega) (by omega), C2.1.1 5 _ (by omega) (by omega) (by omega), xe]
    refine T2_chk (n_in (by omega) (by omega)) (n_in (by omega) (by omega)) ?_
    rw [n_cl (p := e) (by omega), C1.1.1 9 _ (by omega) (by omega) (by omega), C2.1.1 9 _ (by omega) (by omega) (by omega)]
    refine T2_ob ?_ (fun s1 s2 hs => fin9 s1.2 s2.2 _ _ hs)
    refine T2_suc (fun k => by rw [x_decide]) (fun k => by rw [x_decide]) ?_
    exact E_decide hW hXC ht k46 q w' (T 9 e) ν1 ν2 _ _ hw hN hP hB rfl rfl rfl rfl
end BTK
end JnS260
section JnS261
/-! Statements on both sides (reference): print. -/
/-- what printing leaves -/
def OuF (σ ρ : MS) : Prop := (∀ j, j ≠ 84 → j ≠ 93 → j ≠ 106 → ρ.1 j = σ.1 j) ∧ (∀ a, a ≠ 42 → a ≠ 48 → a ≠ 49 → a ≠ 52 → ρ.2.2 a = σ.2.2 a) ∧ ρ.2.1 = σ.2.1
theorem OuF_rf {σ : MS} : OuF σ σ := ⟨fun _ _ _ _ => rfl, fun _ _ _ _ _ => rfl, rfl⟩
theorem OuF_tr {σ τ ρ : MS} (a : OuF σ τ) (b : OuF τ ρ) : OuF σ ρ := ⟨fun j h1 h2 h3 => (b.1 j h1 h2 h3).trans (a.1 j h1 h2 h3), fun x h1 h2 h3 h4 => (b.2.1 x h1 h2 h3 h4).trans (a.2.1 x h1 h2 h3 h4), b.2.2.trans a.2.2⟩
section OUF
variable {T : Nat → Nat → Int32} {FN : Nat → Nat → Prop} {S : Nat → Nat → Nat → Nat → Prop} {t w XC : Nat} {σ ρ τ1 τ2 ρ1 ρ2 σ1 σ2 : MS}
theorem RtP_o (h : OuF σ ρ) (a i : Nat) : RtP t ρ a i ↔ RtP t σ a i := RtP_b (σ := σ) (τ := ρ) (h.1 63 (by decide) (by decide) (by decide)) (h.1 72 (by decide) (by decide) (by decide)) (by rw [h.2.1 30 (by decide) (by decide) (by decide) (by decide)]) (by rw [h.2.1 30 (by decide) (by decide) (by decide) (by decide)]) (h.2.1 31 (by decide) (by decide) (by decide) (by decide)) a i
theorem MI_o {X B h : Nat} {g : Nat → Prop} {l : List Nat} (hO : OuF σ ρ) (hM : MI t X g l B h σ) : MI t X g l B h ρ := by
  have r : ∀ a, a ≠ 42 → a ≠ 48 → a ≠ 49 → a ≠ 52 → ρ.2.2 a = σ.2.2 a := hO.2.1
  refine MI_re hM (hO.1 54 (by decide) (by decide) (by decide)) (hO.1 55 (by decide) (by decide) (by decide)) (r 28 (by decide) (by decide) (by decide) (by decide)) (RtQ_b (σ := σ) (τ := ρ) (hO.1 63 (by decide) (by decide) (by decide)) (hO.1 72 (by decide) (by decide) (by decide)) (by rw [r 30 (by decide) (by decide) (by decide) (by decide)]) (by rw [r 30 (by decide) (by decide) (by decide) (by decide)]) (r 31 (by decide) (by decide) (by decide) (by decide)) hM.2.1) (fun a i z => ?_)
  have z := (RtP_o hO a i).mp z
  have ha : a ≠ 42 ∧ a ≠ 48 ∧ a ≠ 49 ∧ a ≠ 52 := by
    unfold RtP at z
    rcases z with z | z | z | z | z | z | z | z | z
    · have := z.1; omega
    · have := z.1; omega
    · have := z.1; omega
    · have := z.1; omega
    · have := z.1; omega
    · have := z.1; omega
    · have := z.1; omega
    · have := z.1; omega
    · have := z.1; omega
  rw [r a ha.1 ha.2.1 ha.2.2.1 ha.2.2.2]; exact MI_rt hM z
theorem EI_o (h1 : OuF τ1 ρ1) (h2 : OuF τ2 ρ2) (h6 : ρ1.1 106 = ρ2.1 106) (hE : EI t w XC τ1 τ2) : EI t w XC ρ1 ρ2 := by
  obtain ⟨g1, l1', B1, hh1, X1, g2, l2', B2, hh2, X2, m1, m2, hR, i1, i2, t1, e1, e2, w1, hw, x1, x2, ⟨ty1, ty2⟩, a, a1, a2⟩ := hE
  have r1 : ∀ a, a ≠ 42 → a ≠ 48 → a ≠ 49 → a ≠ 52 → ρ1.2.2 a = τ1.2.2 a := h1.2.1
  have r2 : ∀ a, a ≠ 42 → a ≠ 48 → a ≠ 49 → a ≠ 52 → ρ2.2.2 a = τ2.2.2 a := h2.2.1
  refine ⟨g1, l1', B1, hh1, X1, g2, l2', B2, hh2, X2, MI_o h1 m1, MI_o h2 m2, ⟨fun x i z hv => ?_, fun x i hx hz hn => ?_, fun j hj => ?_, ?_⟩, IT_c (h1.1 72 (by decide) (by decide) (by decide)) (r1 34 (by decide) (by decide) (by decide) (by decide)) (r1 35 (by decide) (by decide) (by decide) (by decide)) (r1 28 (by decide) (by decide) (by decide) (by decide)) i1, IT_c (h2.1 72 (by decide) (by decide) (by decide)) (r2 34 (by decide) (by decide) (by decide) (by decide)) (r2 35 (by decide) (by decide) (by decide) (by decide)) (r2 28 (by decide) (by decide) (by decide) (by decide)) i2, (h1.1 59 (by decide) (by decide) (by decide)).trans t1, (h1.1 56 (by decide) (by decide) (by decide)).trans e1, (h2.1 56 (by decide) (by decide) (by decide)).trans e2, (h1.1 57 (by decide) (by decide) (by decide)).trans w1, hw, x1, x2, ⟨by rw [r1 2 (by decide) (by decide) (by decide) (by decide)]; exact ty1, by rw [r1 2 (by decide) (by decide) (by decide) (by decide), r2 2 (by decide) (by decide) (by decide) (by decide)]; exact ty2⟩, a, (h1.1 95 (by decide) (by decide) (by decide)).trans a1, a2⟩
  · have z := (RtP_o h1 x i).mp z
    have hx : x ≠ 42 ∧ x ≠ 48 ∧ x ≠ 49 ∧ x ≠ 52 := by
      unfold RtP at z
      rcases z with z | z | z | z | z | z | z | z | z
      · have := z.1; omega
      · have := z.1; omega
      · have := z.1; omega
      · have := z.1; omega
      · have := z.1; omega
      · have := z.1; omega
      · have := z.1; omega
      · have := z.1; omega
      · have := z.1; omega
    rw [r1 28 (by decide) (by decide) (by decide) (by decide), r2 28 (by decide) (by decide) (by decide) (by decide), r1 x hx.1 hx.2.1 hx.2.2.1 hx.2.2.2, r2 x hx.1 hx.2.1 hx.2.2.1 hx.2.2.2]
    exact hR.1 x i z hv
  · have hx' : x ≠ 42 ∧ x ≠ 48 ∧ x ≠ 49 ∧ x ≠ 52 := by unfold AlR at hx; omega
    rw [r1 x hx'.1 hx'.2.1 hx'.2.2.1 hx'.2.2.2, r2 x hx'.1 hx'.2.1 hx'.2.2.1 hx'.2.2.2]
    refine hR.2.1 x i hx hz (fun y => hn ((InA_c (σ := τ1) (ρ := ρ1) (h1.1 63 (by decide) (by decide) (by decide)) (h1.1 72 (by decide) (by decide) (by decide)) (h1.1 22 (by decide) (by decide) (by decide)) (h1.1 24 (by decide) (by decide) (by decide)) (h1.1 30 (by decide) (by decide) (by decide)) (h1.1 44 (by decide) (by decide) (by decide)) (fun u _ => by rw [r1 21 (by decide) (by decide) (by decide) (by decide)]) (fun k _ => ?_) (fun p _ k _ => ?_) x i).mpr y))
    · rw [r1 30 (by decide) (by decide) (by decide) (by decide)]
    · rw [r1 31 (by decide) (by decide) (by decide) (by decide)]
  · by_cases e : j = 106
    · rw [e]; exact h6
    · rw [h1.1 j (by unfold AlS at hj; omega) (by unfold AlS at hj; omega) e, h2.1 j (by unfold AlS at hj; omega) (by unfold AlS at hj; omega) e]; exact hR.2.2.1 j hj
  · rw [h1.2.2, h2.2.2]; exact hR.2.2.2
theorem UT_o (h : OuF σ ρ) (hU : UT σ) : UT ρ := by
  have r : ∀ a, a ≠ 42 → a ≠ 48 → a ≠ 49 → a ≠ 52 → ρ.2.2 a = σ.2.2 a := h.2.1
  unfold UT StS PtS NUo ItP szV at hU ⊢
  rw [kC_r (r 20 (by decide) (by decide) (by decide) (by decide)) (r 21 (by decide) (by decide) (by decide) (by decide)) (h.1 30 (by decide) (by decide) (by decide)), r 28 (by decide) (by decide) (by decide) (by decide), r 30 (by decide) (by decide) (by decide) (by decide), r 31 (by decide) (by decide) (by decide) (by decide), r 32 (by decide) (by decide) (by decide) (by decide), r 33 (by decide) (by decide) (by decide) (by decide), h.1 63 (by decide) (by decide) (by decide), h.1 64 (by decide) (by decide) (by decide), h.1 65 (by decide) (by decide) (by decide)]
  exact hU
theorem Bs_o (h : OuF σ ρ) (hB : Bs T FN σ) : Bs T FN ρ := by
  have r : ∀ a, a ≠ 42 → a ≠ 48 → a ≠ 49 → a ≠ 52 → ρ.2.2 a = σ.2.2 a := h.2.1
  obtain ⟨b0, b2, b3, b4, b5, b6, b7⟩ := hB
  exact ⟨STb_b b0 (fun j hj => h.1 j (by omega) (by omega) (by omega)) (fun a i q => by rw [r a (by omega) (by omega) (by omega) (by omega)]), fun a i h1 h2 h3 => by rw [r a (by omega) (by omega) (by omega) (by omega)]; exact b2 a i h1 h2 h3, (h.1 67 (by decide) (by decide) (by decide)).trans b3, (h.1 97 (by decide) (by decide) (by decide)).trans b4, (h.1 72 (by decide) (by decide) (by decide)).trans b5, (h.1 69 (by decide) (by decide) (by decide)).trans b6, fun i => (congrFun (kC_r (r 20 (by decide) (by decide) (by decide) (by decide)) (r 21 (by decide) (by decide) (by decide) (by decide)) (h.1 30 (by decide) (by decide) (by decide))) i).trans (b7 i)⟩
theorem Mid_o (h1 : OuF τ1 ρ1) (h2 : OuF τ2 ρ2) (h6 : ρ1.1 106 = ρ2.1 106) (ho : Ou6 ρ1) (hM : Mid T FN S t w XC σ1 σ2 τ1 τ2) : Mid T FN S t w XC σ1 σ2 ρ1 ρ2 := by
  obtain ⟨hE, U1, U2, B1, B2, kp, pq, _⟩ := hM
  refine ⟨EI_o h1 h2 h6 hE, UT_o h1 U1, UT_o h2 U2, Bs_o h1 B1, Bs_o h2 B2, fun j hj => ⟨(h1.1 j (by omega) (by omega) (by omega)).trans (kp j hj).1, (h2.1 j (by omega) (by omega) (by omega)).trans (kp j hj).2⟩, ?_, ho⟩
  unfold PtQ
  rw [h1.2.1 31 (by decide) (by decide) (by decide) (by decide), h1.1 63 (by decide) (by decide) (by decide)]
  exact pq
theorem Pos_o {c un d v n : Nat} {F : List Nat} (h : OuF σ ρ) (hP : Pos T S c un d v n F σ) : Pos T S c un d v n F ρ := by
  have r30 := h.2.1 30 (by decide) (by decide) (by decide) (by decide)
  have r28 := h.2.1 28 (by decide) (by decide) (by decide) (by decide)
  unfold Pos ItS szV at hP ⊢
  rw [r30, r28]; exact hP
end OUF
/-- a byte is put out -/
theorem s_putOut {σ : MS} {o : Nat} (h : σ.1 106 = nI o) (ho : o ≤ 2000000000) (L : Nat → Int32) : Tm (fun k => x_putOut k 0 L σ) (fun r => (∀ j, j ≠ 106 → r.2.1 j = σ.1 j) ∧ (∀ a, a ≠ 52 → r.2.2.2 a = σ.2.2 a) ∧ r.2.2.1 = σ.2.1 ∧ r.2.1 106 = nI (if 2000000000 ≤ o then o else o + 1)) := by
  have b3 : ∀ (τ : MS) (N : Nat → Int32) (e : Nat), (∀ j, j ≠ 106 → τ.1 j = σ.1 j) → (∀ a, a ≠ 52 → τ.2.2 a = σ.2.2 a) → τ.2.1 = σ.2.1 → N 101 = nI o → N 100 = nI e → o + e = (if 2000000000 ≤ o then o else o + 1) → Tm (fun k => x_putOut k 3 N τ) (fun r => (∀ j, j ≠ 106 → r.2.1 j = σ.1 j) ∧ (∀ a, a ≠ 52 → r.2.2.2 a = σ.2.2 a) ∧ r.2.2.1 = σ.2.1 ∧ r.2.1 106 = nI (if 2000000000 ≤ o then o else o + 1)) := by
    intro τ N e s r l n1 n0 he
    have eb : o + e ≤ 2000000001 := by
      rw [he]
      by_cases z : 2000000000 ≤ o
      · rw [if_pos z]; omega
      · rw [if_neg z]; omega
    refine Tm_suc (fun k => by rw [x_putOut]) ?_
    rw [n1, n0, n_add (by omega), he]
    exact Tm_some ⟨fun j hj => (upd_other hj).trans (s j hj), r, l, rfl⟩
  have b1 : ∀ (τ : MS), (∀ j, τ.1 j = σ.1 j) → (∀ a, a ≠ 52 → τ.2.2 a = σ.2.2 a) → τ.2.1 = σ.2.1 → Tm (fun k => x_putOut k 1 L τ) (fun r => (∀ j, j ≠ 106 → r.2.1 j = σ.1 j) ∧ (∀ a, a ≠ 52 → r.2.2.2 a = σ.2.2 a) ∧ r.2.2.1 = σ.2.1 ∧ r.2.1 106 = nI (if 2000000000 ≤ o then o else o + 1)) := by
    intro τ s r l
    refine Tm_suc (fun k => by rw [x_putOut]) ?_
    rw [s 106, h]
    refine Tm_ite (fun z => ?_) (fun z => ?_)
    · have z := (n_le (p := 2000000000) (by decide) (by omega)).mp z
      refine Tm_suc (fun k => by rw [x_putOut]) ?_
      exact b3 τ _ 0 (fun j _ => s j) r l rfl rfl (by rw [if_pos z]; rfl)
    · have z : ¬ 2000000000 ≤ o := fun y => z ((n_le (p := 2000000000) (by decide) (by omega)).mpr y)
      exact b3 τ _ 1 (fun j _ => s j) r l rfl rfl (by rw [if_neg z])
  refine Tm_suc (fun k => by rw [x_putOut]) ?_
  rw [h]
  refine Tm_ite (fun _ => b1 σ (fun _ => rfl) (fun _ _ => rfl) rfl) (fun z => ?_)
  have z : ¬ 60000 ≤ o := fun y => z ((n_le (p := 60000) (by decide) (by omega)).mpr y)
  refine Tm_chk (n_in (by omega) (by omega)) ?_
  rw [n_cl (p := o) (by omega)]
  exact b1 (mAr σ 52 o (L 1)) (fun _ => rfl) (fun a ha => mAr_o ha) rfl
end JnS261
section JnS262
/-! Statements on both sides (reference): print, the whole statement. -/
/-- a list of exps -/
def ExL (T : Nat → Nat → Int32) (FN : Nat → Nat → Prop) (lc : Nat → Prop) : Nat → Int32 → Prop
  | 0, x => x = -1
  | q + 1, x => ∃ e, x = nI e ∧ (1 ≤ e ∧ e < LNo T % 70001) ∧ Wx0 T FN lc x ∧ ExL T FN lc q (T 9 e)
/-- behind a statement, whatever lies upon the pile -/
def OuE (T : Nat → Nat → Int32) (FN : Nat → Nat → Prop) (S : Nat → Nat → Nat → Nat → Prop) (w : Nat) (σ1 σ2 r1 r2 : MS) : Prop := ∃ t XC, XC ≤ 401000 ∧ OuQ T FN S t w XC σ1 σ2 r1 r2
section PRN
variable {T : Nat → Nat → Int32} {FN : Nat → Nat → Prop} {S : Nat → Nat → Nat → Nat → Prop} {t w XC : Nat} {σ1 σ2 : MS}
/-- all bytes of a value are put out -/
theorem pr_6 {Q : Int32 × MS → Int32 × MS → Prop} {ν1 ν2 : MS} {wd : Nat} (hwd : wd ≤ 12000) (K1 K2 : Nat → Int32) (hQ : ∀ (ξ1 ξ2 : MS) (M1 M2 : Nat → Int32), OuF ν1 ξ1 → OuF ν2 ξ2 → ξ1.1 106 = ξ2.1 106 → Ou6 ξ1 → (∀ i, i ≠ 4 → M1 i = K1 i) → (∀ i, i ≠ 4 → M2 i = K2 i) → T2 (fun k => x_prints k 7 M1 ξ1) (fun k => x_prints k 7 M2 ξ2) Q) : ∀ (e j o : Nat) (ξ1 ξ2 : MS) (M1 M2 : Nat → Int32), e + j = wd → OuF ν1 ξ1 → OuF ν2 ξ2 → ξ1.1 106 = nI o → ξ2.1 106 = nI o → o ≤ 2000000000 → ξ1.1 93 = nI wd → ξ2.1 93 = nI wd → AgN (ξ1.2.2 48) (ξ2.2.2 48) wd → (∀ i, i ≠ 4 → M1 i = K1 i) → (∀ i, i ≠ 4 → M2 i = K2 i) → M1 4 = nI j → M2 4 = nI j → T2 (fun k => x_prints k 6 M1 ξ1) (fun k => x_prints k 6 M2 ξ2) Q := by
  intro e
  induction e with
  | zero =>
    intro j o ξ1 ξ2 M1 M2 he f1 f2 o1 o2 ho h93 k93 ag a1 a2 m4 n4
    have ej : j = wd := by omega
    subst ej
    refine T2_suc (fun k => by rw [x_prints]) (fun k => by rw [x_prints]) ?_
    rw [h93, k93, m4, n4]
    refine T2_ite Iff.rfl (fun _ _ => ?_) (fun z _ => absurd (Int32.le_refl _) z)
    exact hQ ξ1 ξ2 M1 M2 f1 f2 (o1.trans o2.symm) ⟨o, o1, ho⟩ a1 a2
  | succ e ih =>
    intro j o ξ1 ξ2 M1 M2 he f1 f2 o1 o2 ho h93 k93 ag a1 a2 m4 n4
    refine T2_suc (fun k => by rw [x_prints]) (fun k => by rw [x_prints]) ?_
    rw [h93, k93, m4, n4]
    refine T2_ite Iff.rfl (fun z _ => ?_) (fun _ _ => ?_)
    · have := (n_le (by omega) (by omega)).mp z
      omega
    refine T2_chk (n_in (by omega) (by omega)) (n_in (by omega) (by omega)) ?_
    refine T2_ob (T2_t (s_putOut o1 ho _) (s_putOut o2 ho _)) (fun r1 r2 hr => ?_)
    obtain ⟨⟨s1, q1, l1, u1⟩, ⟨s2, q2, l2, u2⟩⟩ := hr
    rw [n_add1]
    have ob : (if 2000000000 ≤ o then o else o + 1) ≤ 2000000000 := by
      by_cases z : 2000000000 ≤ o
      · rw [if_pos z]; exact ho
      · rw [if_neg z]; omega
    refine ih (j + 1) _ r1.2 r2.2 _ _ (by omega) (OuF_tr f1 ⟨fun i _ _ h => s1 i h, fun a _ _ _ h => q1 a h, l1⟩) (OuF_tr f2 ⟨fun i _ _ h => s2 i h, fun a _ _ _ h => q2 a h, l2⟩) u1 u2 ob ((s1 93 (by decide)).trans h93) ((s2 93 (by decide)).trans k93) ?_ (fun i hi => ?_) (fun i hi => ?_) rfl rfl
    · rw [q1 48 (by decide), q2 48 (by decide)]; exact ag
    · rw [upd_other hi]; exact a1 i hi
    · rw [upd_other hi]; exact a2 i hi
/-- print -/
theorem E_prints (hW : SWf T FN S) (hXC : XC ≤ 401000) {c un d v n w' q : Nat} {F : List Nat} {τ1 τ2 : MS} (ht : t + q + 9 + KBn T ≤ 17000) (hw : w ≤ w') (hM : Mid T FN S t w' XC σ1 σ2 τ1 τ2) (hP : Pos T S c un d v n F τ1) (hL : ExL T FN (lcU un T) q (T 5 n)) {L1 L2 : Nat → Int32} (d1 : L1 1 = nI n) (d2 : L2 1 = nI n) : T2 (fun k => x_prints k 0 L1 τ1) (fun k => x_prints k 0 L2 τ2) (fun r1 r2 => OuE T FN S w σ1 σ2 r1.2 r2.2) := by
  obtain ⟨hE, U1, U2, B1, B2, kp⟩ := id hM
  have w6 := EI_w hE
  obtain ⟨_, _, ⟨n7, _, _⟩, pb3, pb4⟩ := Pos_b hW hP
  have hSc := Pos_sc B1 hP
  obtain ⟨s1, s2⟩ := EI_59 hE
  have two : ∀ (ρ1 ρ2 : MS) (K1 K2 : Nat → Int32), FE τ1 ρ1 → FE τ2 ρ2 → EZ t 179300 ρ1 → EZ t 179300 ρ2 → T2 (fun k => x_prints k 2 K1 ρ1) (fun k => x_prints k 2 K2 ρ2) (fun r1 r2 => OuE T FN S w σ1 σ2 r1.2 r2.2) := by
    intro ρ1 ρ2 K1 K2 f1 f2 z1 z2
    refine T2_suc (fun k => by rw [x_prints]) (fun k => by rw [x_prints]) ?_
    refine T2_ite ⟨fun z => absurd z (EZ_le z1), fun z => absurd z (EZ_le z2)⟩ (fun z _ => absurd z (EZ_le z1)) (fun _ _ => ?_)
    exact T2_some ⟨t, XC, hXC, OuQ_z (I := fun _ => False) hM (FC_fe f1) (FC_fe f2) (UT_fe f1 U1) (UT_fe f2 U2) (by omega) z1 z2⟩
  -- values are printed
  have four : ∀ (w2 : Nat) (ρ1 ρ2 : MS), w ≤ w2 → Mid T FN S (t + q) w2 XC σ1 σ2 ρ1 ρ2 → Pos T S c un d v n F ρ1 → ∀ (e i : Nat) (ν1 ν2 : MS) (K1 K2 : Nat → Int32), e + i = q → OuF ρ1 ν1 → OuF ρ2 ν2 → ν1.1 106 = ν2.1 106 → Ou6 ν1 → K1 1 = nI n → K2 1 = nI n → K1 3 = nI (t + i) → K2 3 = nI (t + i) → T2 (fun k => x_prints k 4 K1 ν1) (fun k => x_prints k 4 K2 ν2) (fun r1 r2 => OuE T FN S w σ1 σ2 r1.2 r2.2) := by
    intro w2 ρ1 ρ2 hw2 hK hPk e
    have hE := hK.1
    obtain ⟨p1, p2⟩ := EI_59 hE
    have hE0 := hE
    obtain ⟨g1, l1, D1, hh1, X1, g2, l2, D2, hh2, X2, m1, m2, hR, _⟩ := hE0
    induction e with
    | zero =>
      intro i ν1 ν2 K1 K2 he f1 f2 h6 ho k1 l1' k3 l3
      have ei : i = q := by omega
      subst ei
      refine T2_suc (fun k => by rw [x_prints]) (fun k => by rw [x_prints]) ?_
      rw [f1.1 59 (by decide) (by decide) (by decide), f2.1 59 (by decide) (by decide) (by decide), p1, p2, k3, l3]
      refine T2_ite Iff.rfl (fun _ _ => ?_) (fun z _ => absurd (Int32.le_refl _) z)
      refine T2_suc (fun k => by rw [x_prints]) (fun k => by rw [x_prints]) ?_
      exact T2_ob (E_pass hW hXC (by omega) hw2 (Mid_o f1 f2 h6 ho hK) (Pos_o f1 hPk) (by exact k1) (by exact l1')) (fun r1 r2 hr => T2_some ⟨t + i, XC, hXC, hr⟩)
    | succ e ih =>
      intro i ν1 ν2 K1 K2 he f1 f2 h6 ho k1 l1' k3 l3
      obtain ⟨va, vb, a1, a2, a3, a4, a5, a6, a7⟩ := hR.1 29 (t + i) (Or.inl ⟨rfl, by omega⟩) (by unfold VwR; omega)
      have sb := szN_b m1.1 a2
      have sb2 := szN_b m2.1 a4
      refine T2_suc (fun k => by rw [x_prints]) (fun k => by rw [x_prints]) ?_
      rw [f1.1 59 (by decide) (by decide) (by decide), f2.1 59 (by decide) (by decide) (by decide), p1, p2, k3, l3]
      refine T2_ite Iff.rfl (fun z _ => ?_) (fun _ _ => ?_)
      · have := (n_le (by omega) (by omega)).mp z
        omega
      show T2 (fun k => x_prints k 5 K1 (mSc ν1 93 0)) (fun k => x_prints k 5 K2 (mSc ν2 93 0)) _
      have c1 : OuF ρ1 (mSc ν1 93 0) := OuF_tr f1 ⟨fun j _ h _ => upd_other h, fun _ _ _ _ _ => rfl, rfl⟩
      have c2 : OuF ρ2 (mSc ν2 93 0) := OuF_tr f2 ⟨fun j _ h _ => upd_other h, fun _ _ _ _ _ => rfl, rfl⟩
      have q93 : (mSc ν1 93 0).1 93 = nI 0 := rfl
      have r93 : (mSc ν2 93 0).1 93 = nI 0 := rfl
      have q6 : (mSc ν1 93 0).1 106 = (mSc ν2 93 0).1 106 := h6
      have o6 : Ou6 (mSc ν1 93 0) := ho
      generalize mSc ν1 93 0 = μ1 at *
      generalize mSc ν2 93 0 = μ2 at *
      have H1 : HS g1 l1 D1 hh1 μ1 := HS_c m1.1 (c1.1 54 (by decide) (by decide) (by decide)) (c1.1 55 (by decide) (by decide) (by decide)) (c1.2.1 28 (by decide) (by decide) (by decide) (by decide))
      have H2 : HS g2 l2 D2 hh2 μ2 := HS_c m2.1 (c2.1 54 (by decide) (by decide) (by decide)) (c2.1 55 (by decide) (by decide) (by decide)) (c2.2.1 28 (by decide) (by decide) (by decide) (by decide))
      have v28 : μ1.2.2 28 = ρ1.2.2 28 := c1.2.1 28 (by decide) (by decide) (by decide) (by decide)
      have u28 : μ2.2.2 28 = ρ2.2.2 28 := c2.2.1 28 (by decide) (by decide) (by decide) (by decide)
      have ev : EVb (μ1.2.2 28) (μ2.2.2 28) va vb := by rw [v28, u28]; exact a5
      have x1 : μ1.2.2 29 (t + i) = nI va := by rw [c1.2.1 29 (by decide) (by decide) (by decide) (by decide)]; exact a1
      have x2 : μ2.2.2 29 (t + i) = nI vb := by rw [c2.2.1 29 (by decide) (by decide) (by decide) (by decide)]; exact a3
      refine T2_suc (fun k => by rw [x_prints]) (fun k => by rw [x_prints]) ?_
      rw [k3, l3]
      refine T2_chk (n_in (by omega) (by omega)) (n_in (by omega) (by omega)) ?_
      rw [n_cl (p := t + i) (by omega), x1, x2]
      refine T2_ob (T2_of (s_printV H1 a2 q93 (by rw [v28]; omega) rfl) (s_printV H2 a4 r93 (by rw [u28]; omega) rfl) (fun m => Pm_wl (fun k => wl_print k 0 _ μ1) (fun k => wl_print k 0 _ μ2) (k_printV H1 H2 a2 a4 ev ⟨0, by omega, q93, r93, fun j hj => by omega⟩ ⟨fun j hj => ?_, rfl, rfl⟩))) (fun r1 r2 hr => ?_)
      · by_cases e2 : j = 2
        · rw [e2]; rfl
        · rw [upd_other e2, upd_other e2, upd_other (by omega), upd_other (by omega)]
      obtain ⟨⟨⟨⟨wd, hwd, w93, z93, ag⟩, P1, P2⟩, wl1, wl2⟩, _, _⟩ := hr
      have g1' : OuF ρ1 r1.2 := OuF_tr c1 ⟨fun j h1 h2 _ => P1.1 j (by omega), fun a h1 h2 h3 _ => P1.2 a (by omega), wl1⟩
      have g2' : OuF ρ2 r2.2 := OuF_tr c2 ⟨fun j h1 h2 _ => P2.1 j (by omega), fun a h1 h2 h3 _ => P2.2 a (by omega), wl2⟩
      obtain ⟨o, o1, o2⟩ := o6
      have o1' : r1.2.1 106 = nI o := (P1.1 106 (by decide)).trans o1
      have o2' : r2.2.1 106 = nI o := (P2.1 106 (by decide)).trans (q6.symm.trans o1)
      refine pr_6 (ν1 := ρ1) (ν2 := ρ2) hwd K1 K2 (fun ξ1 ξ2 M1 M2 b1 b2 b6 bo ma mb => ?_) wd 0 o r1.2 r2.2 _ _ (by omega) g1' g2' o1' o2' o2 w93 z93 ag (fun j hj => upd_other hj) (fun j hj => upd_other hj) rfl rfl
      -- the end of one
      have m3 : M1 3 = nI (t + i) := (ma 3 (by decide)).trans k3
      have n3 : M2 3 = nI (t + i) := (mb 3 (by decide)).trans l3
      have nine : ∀ (x : Int32) (J1 J2 : Nat → Int32), J1 1 = nI n → J2 1 = nI n → J1 3 = nI (t + i) → J2 3 = nI (t + i) → J1 100 = x → J2 100 = x → T2 (fun k => x_prints k 9 J1 ξ1) (fun k => x_prints k 9 J2 ξ2) (fun r1 r2 => OuE T FN S w σ1 σ2 r1.2 r2.2) := by
        intro x J1 J2 j1 i1 j3 i3 j100 i100
        obtain ⟨o', y1, y2⟩ := bo
        refine T2_suc (fun k => by rw [x_prints]) (fun k => by rw [x_prints]) ?_
        refine T2_ob (T2_t (s_putOut y1 y2 _) (s_putOut (b6.symm.trans y1) y2 _)) (fun r1 r2 hr => ?_)
        obtain ⟨⟨s1, q1, l1, u1⟩, ⟨s2, q2, l2, u2⟩⟩ := hr
        rw [j3, i3, n_add1]
        have ob : (if 2000000000 ≤ o' then o' else o' + 1) ≤ 2000000000 := by
          by_cases z : 2000000000 ≤ o'
          · rw [if_pos z]; exact y2
          · rw [if_neg z]; omega
        exact ih (i + 1) r1.2 r2.2 _ _ (by omega) (OuF_tr b1 ⟨fun i _ _ h => s1 i h, fun a _ _ _ h => q1 a h, l1⟩) (OuF_tr b2 ⟨fun i _ _ h => s2 i h, fun a _ _ _ h => q2 a h, l2⟩) (u1.trans u2.symm) ⟨_, u1, ob⟩ j1 i1 rfl rfl
      refine T2_suc (fun k => by rw [x_prints]) (fun k => by rw [x_prints]) ?_
      rw [m3, n3, b1.1 59 (by decide) (by decide) (by decide), b2.1 59 (by decide) (by decide) (by decide), p1, p2]
      have jm1 : M1 1 = nI n := (ma 1 (by decide)).trans k1
      have jm2 : M2 1 = nI n := (mb 1 (by decide)).trans l1'
      refine T2_ite Iff.rfl (fun _ _ => nine 10 _ _ jm1 jm2 m3 n3 rfl rfl) (fun _ _ => ?_)
      refine T2_suc (fun k => by rw [x_prints]) (fun k => by rw [x_prints]) ?_
      exact nine 32 _ _ jm1 jm2 m3 n3 rfl rfl
  -- the list is evaluated
  have lp : ∀ (q' i : Nat) (x : Int32) (ρ1 ρ2 : MS) (K1 K2 : Nat → Int32), q' + i = q → ExL T FN (lcU un T) q' x → FE τ1 ρ1 → FE τ2 ρ2 → ((∃ w2, w' ≤ w2 ∧ EI (t + i) w2 XC ρ1 ρ2) ∨ (EZ t 179300 ρ1 ∧ EZ t 179300 ρ2)) → K1 1 = nI n → K2 1 = nI n → K1 2 = nI t → K2 2 = nI t → K1 3 = x → K2 3 = x → T2 (fun k => x_prints k 1 K1 ρ1) (fun k => x_prints k 1 K2 ρ2) (fun r1 r2 => OuE T FN S w σ1 σ2 r1.2 r2.2) := by
    intro q'
    induction q' with
    | zero =>
      intro i x ρ1 ρ2 K1 K2 hq hL f1 f2 hor k1 l1 k2 l2 k3 l3
      have hx0 : x = -1 := hL
      have ei : i = q := by omega
      subst ei
      refine T2_suc (fun k => by rw [x_prints]) (fun k => by rw [x_prints]) ?_
      rw [k3, l3, hx0]
      refine T2_ite Iff.rfl (fun _ _ => ?_) (fun z _ => absurd rfl z)
      rcases hor with ⟨w2, hw2, hJ⟩ | ⟨z1, z2⟩
      · obtain ⟨e1, e2⟩ := EI_e hJ
        refine T2_suc (fun k => by rw [x_prints]) (fun k => by rw [x_prints]) ?_
        rw [e1, e2]
        refine T2_ite Iff.rfl (fun _ _ => ?_) (fun z _ => absurd (by decide) z)
        refine T2_suc (fun k => by rw [x_prints]) (fun k => by rw [x_prints]) ?_
        have hK : Mid T FN S (t + i) w2 XC σ1 σ2 ρ1 ρ2 := Mid_fc (I := fun _ => False) hM (FC_fe f1) (FC_fe f2) hJ (UT_fe f1 U1) (UT_fe f2 U2)
        have o6 : ρ1.1 106 = ρ2.1 106 := by
          obtain ⟨g1, l1, B1, h1, X1, g2, l2, B2, h2, X2, _, _, hR, _⟩ := hJ
          exact hR.2.2.1 106 (by unfold AlS; omega)
        exact four w2 ρ1 ρ2 (Nat.le_trans hw hw2) hK (Pos_fs hW (FS_fe f1) hP) i 0 ρ1 ρ2 _ _ (by omega) OuF_rf OuF_rf o6 hK.2.2.2.2.2.2.2 k1 l1 k2 l2
      · exact two ρ1 ρ2 _ _ f1 f2 z1 z2
    | succ q' ih =>
      intro i x ρ1 ρ2 K1 K2 hq hL f1 f2 hor k1 l1 k2 l2 k3 l3
      obtain ⟨e, xe, he, hX, hL⟩ := hL
      refine T2_suc (fun k => by rw [x_prints]) (fun k => by rw [x_prints]) ?_
      rw [k3, l3, xe]
      refine T2_ite Iff.rfl (fun z _ => absurd z (ne_m1 he)) (fun _ _ => ?_)
      rcases hor with ⟨w2, hw2, hJ⟩ | ⟨z1, z2⟩
      · obtain ⟨e1, e2⟩ := EI_e hJ
        rw [e1, e2]
        refine T2_ite Iff.rfl (fun _ _ => ?_) (fun z _ => absurd rfl z)
        refine T2_ob (E_eval (by omega) (by omega) (Sc0_fe hSc.1 f1) (by rw [← xe]; exact hX) hJ rfl rfl) (fun r1 r2 hr => ?_)
        obtain ⟨j1, j2, hr⟩ := hr
        have D1 := (STb_fe B1.1 (FE_tr f1 j1)).1 9 e (by omega) (by omega) (by omega)
        have D2 := (STb_fe B2.1 (FE_tr f2 j2)).1 9 e (by omega) (by omega) (by omega)
        refine T2_chk (n_in (by omega) (by omega)) (n_in (by omega) (by omega)) ?_
        rw [n_cl (p := e) (by omega), D1, D2]
        refine ih (i + 1) (T 9 e) r1.2 r2.2 _ _ (by omega) hL (FE_tr f1 j1) (FE_tr f2 j2) (hr.imp (fun ⟨w3, h3, h⟩ => ⟨w3, by omega, h⟩) (fun ⟨a, b⟩ => ⟨EZ_mo a (by omega) (by omega), EZ_mo b (by omega) (by omega)⟩)) k1 l1 k2 l2 rfl rfl
      · refine T2_ite ⟨fun z => absurd z (EZ_e z1), fun z => absurd z (EZ_e z2)⟩ (fun z _ => absurd z (EZ_e z1)) (fun _ _ => ?_)
        exact two ρ1 ρ2 _ _ f1 f2 z1 z2
  refine T2_suc (fun k => by rw [x_prints]) (fun k => by rw [x_prints]) ?_
  rw [d1, d2]
  refine T2_chk (n_in (by omega) (by omega)) (n_in (by omega) (by omega)) ?_
  rw [n_cl (p := n) (by omega), B1.1.1 5 _ (by omega) (by omega) (by omega), B2.1.1 5 _ (by omega) (by omega) (by omega), s1, s2]
  exact lp q 0 (T 5 n) τ1 τ2 _ _ (by omega) hL FE_rf FE_rf (Or.inl ⟨w', Nat.le_refl _, hE⟩) d1 d2 rfl rfl rfl rfl
end PRN
end JnS262
section JnS263
/-! Statements on both sides (reference): parts of a tuple are written. -/
/-- targets of a tuple (32: none), with K keys -/
def TgL (T : Nat → Nat → Int32) (FN : Nat → Nat → Prop) (lc cn : Nat → Prop) : Nat → Nat → Int32 → Prop
  | 0, K, x => x = -1 ∧ K = 0
  | q + 1, K, x => ∃ e, x = nI e ∧ (1 ≤ e ∧ e < LNo T % 70001) ∧ ((T 4 e = 32 ∧ TgL T FN lc cn q K (T 9 e)) ∨ (¬ T 4 e = 32 ∧ ∃ k ch s K', e = ch k ∧ Tgt T FN lc k ch ∧ NmW T lc cn (ch 0) s ∧ K = kys T ch k + K' ∧ TgL T FN lc cn q K' (T 9 e)))
/-- with an error the top is lowered by one -/
theorem EZ_d1 {a b : Nat} {σ : MS} (h : EZ (a + 1) b σ) (hb : b ≤ 200000) : EZ a b (mSc σ 59 (σ.1 59 - 1)) := by
  obtain ⟨g, l, B, h', t, hM, h59, ha, hb', he, hE, hw, hc⟩ := h
  obtain ⟨t', rfl⟩ : ∃ t', t = t' + 1 := ⟨t - 1, by omega⟩
  rw [h59, n_sub1 (by omega)]
  exact ⟨g, l, B, h', t', MI_59 (MI_mo hM (by omega)), rfl, by omega, by omega, he, hE, hw, hc⟩
section PTO
variable {T : Nat → Nat → Int32} {FN : Nat → Nat → Prop} {S : Nat → Nat → Nat → Nat → Prop} {t w XC : Nat} {σ1 σ2 : MS}
/-- parts of a tuple are written -/
theorem E_partsTo (hW : SWf T FN S) (hXC : XC ≤ 401000) {c un d v n w' q KK : Nat} {F : List Nat} {τ1 τ2 : MS} (ht : t + KK + 12 + KBn T ≤ 17000) (hq : q ≤ 20000) (hw : w ≤ w') (hM : Mid T FN S t w' XC σ1 σ2 τ1 τ2) (hP : Pos T S c un d v n F τ1) (hL : TgL T FN (lcU un T) (cnU un T) q KK (T 5 n)) (h6 : Wx0 T FN (lcU un T) (T 6 n)) {L1 L2 : Nat → Int32} (d1 : L1 1 = nI n) (d2 : L2 1 = nI n) : T2 (fun k => x_partsTo k 0 L1 τ1) (fun k => x_partsTo k 0 L2 τ2) (fun r1 r2 => OuE T FN S w σ1 σ2 r1.2 r2.2) := by
  obtain ⟨hE, U1, U2, B1, B2, kp⟩ := id hM
  have w6 := EI_w hE
  obtain ⟨_, _, ⟨n7, _, _⟩, pb3, pb4⟩ := Pos_b hW hP
  have hSc := Pos_sc B1 hP
  have hSc2 := Sc1_ei hSc hE
  obtain ⟨s1, s2⟩ := EI_59 hE
  have fz : ∀ (b : Nat) (ν1 ν2 : MS), FSt τ1 ν1 → FSt τ2 ν2 → UT ν1 → UT ν2 → b ≤ 179400 → EZ t b ν1 → EZ t b ν2 → OuE T FN S w σ1 σ2 ν1 ν2 := fun b ν1 ν2 f1 f2 V1 V2 hb z1 z2 => ⟨t, XC, hXC, OuQ_z (I := fun _ => False) hM (FC_fs f1) (FC_fs f2) V1 V2 hb z1 z2⟩
  -- pass with an error
  have twelveZ : ∀ (ν1 ν2 : MS) (K1 K2 : Nat → Int32), FSt τ1 ν1 → FSt τ2 ν2 → UT ν1 → UT ν2 → EZ t 179301 ν1 → EZ t 179301 ν2 → T2 (fun k => x_partsTo k 12 K1 ν1) (fun k => x_partsTo k 12 K2 ν2) (fun r1 r2 => OuE T FN S w σ1 σ2 r1.2 r2.2) := by
    intro ν1 ν2 K1 K2 f1 f2 V1 V2 z1 z2
    refine T2_suc (fun k => by rw [x_partsTo]) (fun k => by rw [x_partsTo]) ?_
    refine T2_ob (T2_t (s_passZ (EZ_e z1)) (s_passZ (EZ_e z2))) (fun r1 r2 hr => ?_)
    rw [hr.1, hr.2]
    exact T2_some (fz 179301 ν1 ν2 f1 f2 V1 V2 (by omega) z1 z2)
  have sevenZ : ∀ (ν1 ν2 : MS) (x : Int32) (K1 K2 : Nat → Int32), FSt τ1 ν1 → FSt τ2 ν2 → UT ν1 → UT ν2 → EZ t 179301 ν1 → EZ t 179301 ν2 → K1 5 = x → K2 5 = x → T2 (fun k => x_partsTo k 7 K1 ν1) (fun k => x_partsTo k 7 K2 ν2) (fun r1 r2 => OuE T FN S w σ1 σ2 r1.2 r2.2) := by
    intro ν1 ν2 x K1 K2 f1 f2 V1 V2 z1 z2 k5 l5
    refine T2_suc (fun k => by rw [x_partsTo]) (fun k => by rw [x_partsTo]) ?_
    rw [k5, l5]
    refine T2_ite Iff.rfl (fun _ _ => twelveZ _ _ _ _ f1 f2 V1 V2 z1 z2) (fun _ _ => ?_)
    exact T2_ite ⟨fun z => absurd z (EZ_e z1), fun z => absurd z (EZ_e z2)⟩ (fun z _ => absurd z (EZ_e z1)) (fun _ _ => twelveZ _ _ _ _ f1 f2 V1 V2 z1 z2)
  -- the writes
  have seven : ∀ (q K : Nat) (x : Int32) (j i w2 : Nat) (ν1 ν2 : MS) (K1 K2 : Nat → Int32), TgL T FN (lcU un T) (cnU un T) q K x → i + K = KK → q + j ≤ 20000 → w ≤ w2 → FSt τ1 ν1 → FSt τ2 ν2 → UT ν1 → UT ν2 → EI (t + KK + 1) w2 XC ν1 ν2 → (szV ν1 29 (t + KK)).2.1 = 5 → K1 1 = nI n → K2 1 = nI n → K1 2 = nI (t + i) → K2 2 = nI (t + i) → K1 3 = nI (t + KK) → K2 3 = nI (t + KK) → K1 4 = nI j → K2 4 = nI j → K1 5 = x → K2 5 = x → T2 (fun k => x_partsTo k 7 K1 ν1) (fun k => x_partsTo k 7 K2 ν2) (fun r1 r2 => OuE T FN S w σ1 σ2 r1.2 r2.2) := by
    intro q
    induction q with
    | zero =>
      intro K x j i w2 ν1 ν2 K1 K2 hL hi hj hw2 f1 f2 V1 V2 hJ kd k1 l1 k2 l2 k3 l3 k4 l4 k5 l5
      obtain ⟨hx, _⟩ := hL
      refine T2_suc (fun k => by rw [x_partsTo]) (fun k => by rw [x_partsTo]) ?_
      rw [k5, l5, hx]
      refine T2_ite Iff.rfl (fun _ _ => ?_) (fun z _ => absurd rfl z)
      refine T2_suc (fun k => by rw [x_partsTo]) (fun k => by rw [x_partsTo]) ?_
      exact T2_ob (E_pass (t := t + KK + 1) hW hXC (by omega) hw2 (Mid_fc (I := fun _ => False) hM (FC_fs f1) (FC_fs f2) hJ V1 V2) (Pos_fs hW f1 hP) (by exact k1) (by exact l1)) (fun r1 r2 hr => T2_some ⟨t + KK + 1, XC, hXC, hr⟩)
    | succ q ih =>
      intro K x j i w2 ν1 ν2 K1 K2 hL hi hj hw2 f1 f2 V1 V2 hJ kd k1 l1 k2 l2 k3 l3 k4 l4 k5 l5
      obtain ⟨e, xe, he, hL⟩ := hL
      obtain ⟨e1, e2⟩ := EI_e hJ
      have S1 := Sc1_fs hSc f1
      have S2 := Sc1_fs hSc2 f2
      -- on to the next one
      have eleven : ∀ (w3 i' K' : Nat) (ρ1 ρ2 : MS) (M1 M2 : Nat → Int32), TgL T FN (lcU un T) (cnU un T) q K' (T 9 e) → i' + K' = KK → w ≤ w3 → FSt τ1 ρ1 → FSt τ2 ρ2 → UT ρ1 → UT ρ2 → ((EI (t + KK + 1) w3 XC ρ1 ρ2 ∧ (szV ρ1 29 (t + KK)).2.1 = 5) ∨ (EZ t 179301 ρ1 ∧ EZ t 179301 ρ2)) → M1 1 = nI n → M2 1 = nI n → M1 2 = nI (t + i') → M2 2 = nI (t + i') → M1 3 = nI (t + KK) → M2 3 = nI (t + KK) → M1 4 = nI j → M2 4 = nI j → M1 5 = nI e → M2 5 = nI e → T2 (fun k => x_partsTo k 11 M1 ρ1) (fun k => x_partsTo k 11 M2 ρ2) (fun r1 r2 => OuE T FN S w σ1 σ2 r1.2 r2.2) := by
        intro w3 i' K' ρ1 ρ2 M1 M2 hL' hi' hw3 g1 g2 W1 W2 hor m1 n1 m2 n2 m3 n3 m4 n4 m5 n5
        refine T2_suc (fun k => by rw [x_partsTo]) (fun k => by rw [x_partsTo]) ?_
        rw [m5, n5, m4, n4, n_add1]
        refine T2_chk (n_in (by omega) (by omega)) (n_in (by omega) (by omega)) ?_
        rw [n_cl (p := e) (by omega), (Sc1_fs hSc g1).1.1.1 9 _ (by omega) (by omega) (by omega), (Sc1_fs hSc2 g2).1.1.1 9 _ (by omega) (by omega) (by omega)]
        rcases hor with ⟨hJ', kd'⟩ | ⟨z1, z2⟩
        · exact ih K' (T 9 e) (j + 1) i' w3 ρ1 ρ2 _ _ hL' hi' (by omega) hw3 g1 g2 W1 W2 hJ' kd' m1 n1 m2 n2 m3 n3 rfl rfl rfl rfl
        · exact sevenZ ρ1 ρ2 (T 9 e) _ _ g1 g2 W1 W2 z1 z2 rfl rfl
      refine T2_suc (fun k => by rw [x_partsTo]) (fun k => by rw [x_partsTo]) ?_
      rw [k5, l5, xe, e1, e2]
      refine T2_ite Iff.rfl (fun z _ => absurd z (ne_m1 he)) (fun _ _ => ?_)
      refine T2_ite Iff.rfl (fun _ _ => ?_) (fun z _ => absurd rfl z)
      refine T2_chk (n_in (by omega) (by omega)) (n_in (by omega) (by omega)) ?_
      rw [n_cl (p := e) (by omega), S1.1.1.1 4 _ (by omega) (by omega) (by omega), S2.1.1.1 4 _ (by omega) (by omega) (by omega)]
      refine T2_ite Iff.rfl (fun z32 _ => ?_) (fun z32 _ => ?_)
      · have hL' : TgL T FN (lcU un T) (cnU un T) q K (T 9 e) := by
          rcases hL with z | z
          · exact z.2
          · exact absurd z32 z.1
        exact eleven w2 i K ν1 ν2 _ _ hL' hi hw2 f1 f2 V1 V2 (Or.inl ⟨hJ, kd⟩) k1 l1 k2 l2 k3 l3 k4 l4 (k5.trans xe) (l5.trans xe)
      obtain ⟨kk, ch, s, K', ech, hT, hN, eK, hL'⟩ : ∃ kk ch s K', e = ch kk ∧ Tgt T FN (lcU un T) kk ch ∧ NmW T (lcU un T) (cnU un T) (ch 0) s ∧ K = kys T ch kk + K' ∧ TgL T FN (lcU un T) (cnU un T) q K' (T 9 e) := by
        rcases hL with z | z
        · exact absurd z.1 z32
        · exact z.2
      have kge := kys_ge (T := T) (ch := ch) (i := kk)
      have hJ0 := hJ
      obtain ⟨g1, l1', D1, hh1, X1, g2, l2', D2, hh2, X2, hX⟩ := hJ0
      have rt : RtP (t + KK + 1) ν1 29 (t + KK) := Or.inl ⟨rfl, by omega⟩
      obtain ⟨va, vb, a1, a2, a3, a4, a5, a6, a7⟩ := hX.2.2.1.1 29 (t + KK) rt (by unfold VwR; omega)
      have kda : kdN (ν1.2.2 28) va = 5 := by
        have : (szV ν1 29 (t + KK)).2.1 = kdN (ν1.2.2 28) va := by unfold szV; rw [a1, n_cl (p := va) (by omega)]
        rw [← this]; exact kd
      have ga := kdN_ge hX.1.1 a2 (by omega)
      obtain ⟨kx, p, hO⟩ := OE_of hX.1.1 hX.2.1.1 ga a4 a5
      obtain ⟨gv1, gv2, o3, o4, o5, o6, o7, o8, o9, o10, o11, o12, o13, o14, o15, o16, o17⟩ := hO
      -- a value is written
      have nine : ∀ (x1 x2 : Int32) (M1 M2 : Nat → Int32), (∀ (g1 : Nat → Prop) (l1 : List Nat) (B1 h1 X1 : Nat) (g2 : Nat → Prop) (l2 : List Nat) (B2 h2 X2 : Nat), EIx (t + KK + 1) w2 XC ν1 ν2 g1 l1 B1 h1 X1 g2 l2 B2 h2 X2 → VC g1 g2 (ν1.2.2 28) (ν2.2.2 28) x1 x2 ∧ (∃ m, x1 = nI m ∧ (m < 3 ∨ Rch (ν1.2.2 28) (RoS (t + KK + 1) ν1) m)) ∧ ∃ m, x2 = nI m ∧ (m < 3 ∨ Rch (ν2.2.2 28) (RoS (t + KK + 1) ν2) m)) → M1 1 = nI n → M2 1 = nI n → M1 2 = nI (t + i) → M2 2 = nI (t + i) → M1 3 = nI (t + KK) → M2 3 = nI (t + KK) → M1 4 = nI j → M2 4 = nI j → M1 5 = nI e → M2 5 = nI e → M1 100 = x1 → M2 100 = x2 → T2 (fun k => x_partsTo k 9 M1 ν1) (fun k => x_partsTo k 9 M2 ν2) (fun r1 r2 => OuE T FN S w σ1 σ2 r1.2 r2.2) := by
        intro x1 x2 M1 M2 hx m1 n1 m2 n2 m3 n3 m4 n4 m5 n5 m100 n100
        obtain ⟨p1, p2⟩ := EI_59 hJ
        refine T2_suc (fun k => by rw [x_partsTo]) (fun k => by rw [x_partsTo]) ?_
        refine T2_ob (T2_and (E_pr hJ (by omega) hx (by exact m100) (by exact n100)) (T2_t (s_push p1 (by omega) _) (s_push p2 (by omega) _))) (fun r1 r2 hr => ?_)
        obtain ⟨⟨h1, h2, hK⟩, hs1, _⟩ := hr
        have pk0 : PKp (t + KK + 1) ν1 r1.2 := by rw [hs1]; exact PK_pu (Nat.le_refl _)
        obtain ⟨y1, y2⟩ := EI_59 hK
        rw [y1, y2, n_sub1 (by omega), m5, n5, m2, n2, ech]
        refine T2_ob (E_writeP (t := t + KK + 1 + 1) (u := t + i) (p := t + KK + 1) (by omega) hT hN (by omega) (by omega) (by omega) (Sc1_fs S1 (FS_fe h1)) hK (UT_fe h1 V1) (UT_fe h2 V2) rfl rfl rfl rfl rfl rfl) (fun u1 u2 hu => ?_)
        obtain ⟨⟨c1, c2, c3, c4, c5⟩, pk⟩ := hu
        show T2 (fun k => x_partsTo k 10 M1 (mSc u1.2 59 (u1.2.1 59 - 1))) (fun k => x_partsTo k 10 M2 (mSc u2.2 59 (u2.2.1 59 - 1))) _
        have G1 : FSt τ1 (mSc u1.2 59 (u1.2.1 59 - 1)) := FS_tr f1 (FS_tr (FS_fe h1) (FS_tr c1 (FS_sc (by omega))))
        have G2 : FSt τ2 (mSc u2.2 59 (u2.2.1 59 - 1)) := FS_tr f2 (FS_tr (FS_fe h2) (FS_tr c2 (FS_sc (by omega))))
        have W1 : UT (mSc u1.2 59 (u1.2.1 59 - 1)) := UT_c c3 rfl rfl rfl rfl
        have W2 : UT (mSc u2.2 59 (u2.2.1 59 - 1)) := UT_c c4 rfl rfl rfl rfl
        have hor : ∃ w3, w ≤ w3 ∧ ((EI (t + KK + 1) w3 XC (mSc u1.2 59 (u1.2.1 59 - 1)) (mSc u2.2 59 (u2.2.1 59 - 1)) ∧ (szV (mSc u1.2 59 (u1.2.1 59 - 1)) 29 (t + KK)).2.1 = 5) ∨ (EZ t 179301 (mSc u1.2 59 (u1.2.1 59 - 1)) ∧ EZ t 179301 (mSc u2.2 59 (u2.2.1 59 - 1)))) := by
          rcases c5 with ⟨w3, hw3, hU⟩ | ⟨z1, z2⟩
          · obtain ⟨y3, y4⟩ := EI_59 hU
            refine ⟨w3, by omega, Or.inl ⟨?_, ?_⟩⟩
            · rw [y3, y4, n_sub1 (by omega)]
              exact EI_dn (by omega) hU
            · have k1' := pk (EI_e hU).1 (t + KK) (by omega)
              have k2' := pk0 (t + KK) (by omega)
              show (szV u1.2 29 (t + KK)).2.1 = 5
              rw [k1', k2']; exact kd
          · exact ⟨w2, hw2, Or.inr ⟨EZ_mo (EZ_d1 z1 (by omega)) (by omega) (Nat.le_refl _), EZ_mo (EZ_d1 z2 (by omega)) (by omega) (Nat.le_refl _)⟩⟩
        obtain ⟨w3, hw3, hor⟩ := hor
        generalize mSc u1.2 59 (u1.2.1 59 - 1) = π1 at *
        generalize mSc u2.2 59 (u2.2.1 59 - 1) = π2 at *
        have T1 := Sc1_fs hSc G1
        have T2' := Sc1_fs hSc2 G2
        refine T2_suc (fun k => by rw [x_partsTo]) (fun k => by rw [x_partsTo]) ?_
        refine T2_ob (T2_t (s_keysIn hT (fun i hi => T1.1.1.1 4 i (by omega) (by omega) (by omega)) (fun i hi => T1.1.1.1 6 i (by omega) (by omega) (by omega)) (by omega) (by exact (m5.trans (by rw [ech])))) (s_keysIn hT (fun i hi => T2'.1.1.1 4 i (by omega) (by omega) (by omega)) (fun i hi => T2'.1.1.1 6 i (by omega) (by omega) (by omega)) (by omega) (by exact (n5.trans (by rw [ech]))))) (fun y1 y2 hy => ?_)
        rw [hy.1, hy.2, m2, n2]
        show T2 (fun k => x_partsTo k 11 (upd M1 2 (nI (t + i) + nI (kys T ch kk))) π1) (fun k => x_partsTo k 11 (upd M2 2 (nI (t + i) + nI (kys T ch kk))) π2) _
        rw [n_add (p := t + i) (by omega)]
        exact eleven w3 (i + kys T ch kk) K' π1 π2 _ _ hL' (by omega) hw3 G1 G2 W1 W2 hor m1 n1 (by show nI (t + i + kys T ch kk) = _; congr 1; omega) (by show nI (t + i + kys T ch kk) = _; congr 1; omega) m3 n3 m4 n4 m5 n5
      rw [k3, l3]
      refine T2_chk (n_in (by omega) (by omega)) (n_in (by omega) (by omega)) ?_
      rw [n_cl (p := t + KK) (by omega), a1, a3, n_add1, n_add1]
      refine T2_chk (n_in (by omega) (by omega)) (n_in (by omega) (by omega)) ?_
      rw [n_cl (p := va + 1) (by omega), n_cl (p := vb + 1) (by omega), o11, o12, k4, l4]
      refine T2_ite Iff.rfl (fun _ _ => ?_) (fun z _ => ?_)
      · refine T2_suc (fun k => by rw [x_partsTo]) (fun k => by rw [x_partsTo]) ?_
        exact nine 0 0 _ _ (fun _ _ _ _ _ _ _ _ _ _ _ => ⟨VC_00, ⟨0, rfl, Or.inl (by decide)⟩, ⟨0, rfl, Or.inl (by decide)⟩⟩) k1 l1 k2 l2 k3 l3 k4 l4 (k5.trans xe) (l5.trans xe) rfl rfl
      · have jp : j < p := by
          have : ¬ p ≤ j := fun y => z ((n_le (by omega) (by omega)).mpr y)
          omega
        have ea : ∀ x : Nat, x < 1740000 → nI x + 4 + nI j = nI (x + 4 + j) := fun x hx => by
          rw [show nI x + 4 = nI (x + 4) from n_add (q := 4) (by omega), n_add (by omega)]
        rw [ea va a6, ea vb a7]
        refine T2_chk (n_in (by omega) (by omega)) (n_in (by omega) (by omega)) ?_
        rw [n_cl (p := va + 4 + j) (by omega), n_cl (p := vb + 4 + j) (by omega)]
        refine nine (ν1.2.2 28 (va + 4 + j)) (ν2.2.2 28 (vb + 4 + j)) _ _ (fun g1 l1 B1 h1 X1 g2 l2 B2 h2 X2 hE => ?_) k1 l1 k2 l2 k3 l3 k4 l4 (k5.trans xe) (l5.trans xe) rfl rfl
        obtain ⟨a', b', q1, q2, _, _, _, q6, q7, q8, _⟩ := Rt_val hE rt (by unfold VwR; omega) a1 a3 a6 a7 (by omega) o11 o6 jp
        rw [q1, q2]
        exact ⟨q6, ⟨a', rfl, q7⟩, ⟨b', rfl, q8⟩⟩
  -- the tuple
  have three : ∀ (ρ1 ρ2 : MS) (K1 K2 : Nat → Int32), FE τ1 ρ1 → FE τ2 ρ2 → ((∃ w2, w' ≤ w2 ∧ EI (t + KK) w2 XC ρ1 ρ2) ∨ (EZ t 179300 ρ1 ∧ EZ t 179300 ρ2)) → K1 1 = nI n → K2 1 = nI n → K1 2 = nI t → K2 2 = nI t → T2 (fun k => x_partsTo k 3 K1 ρ1) (fun k => x_partsTo k 3 K2 ρ2) (fun r1 r2 => OuE T FN S w σ1 σ2 r1.2 r2.2) := by
    intro ρ1 ρ2 K1 K2 f1 f2 hor k1 l1 k2 l2
    have fourZ : ∀ (ν1 ν2 : MS) (M1 M2 : Nat → Int32), FE τ1 ν1 → FE τ2 ν2 → EZ t 179300 ν1 → EZ t 179300 ν2 → T2 (fun k => x_partsTo k 4 M1 ν1) (fun k => x_partsTo k 4 M2 ν2) (fun r1 r2 => OuE T FN S w σ1 σ2 r1.2 r2.2) := by
      intro ν1 ν2 M1 M2 g1 g2 z1 z2
      refine T2_suc (fun k => by rw [x_partsTo]) (fun k => by rw [x_partsTo]) ?_
      refine T2_ite ⟨fun z => absurd z (EZ_le z1), fun z => absurd z (EZ_le z2)⟩ (fun z _ => absurd z (EZ_le z1)) (fun _ _ => ?_)
      exact T2_some (fz 179300 ν1 ν2 (FS_fe g1) (FS_fe g2) (UT_fe g1 U1) (UT_fe g2 U2) (by omega) z1 z2)
    refine T2_suc (fun k => by rw [x_partsTo]) (fun k => by rw [x_partsTo]) ?_
    rcases hor with ⟨w2, hw2, hJ⟩ | ⟨z1, z2⟩
    case inr =>
      refine T2_ite ⟨fun z => absurd z (EZ_e z1), fun z => absurd z (EZ_e z2)⟩ (fun z _ => absurd z (EZ_e z1)) (fun _ _ => ?_)
      exact fourZ ρ1 ρ2 _ _ f1 f2 z1 z2
    obtain ⟨e1, e2⟩ := EI_e hJ
    rw [e1, e2, k1, l1]
    refine T2_ite Iff.rfl (fun _ _ => ?_) (fun z _ => absurd rfl z)
    refine T2_chk (n_in (by omega) (by omega)) (n_in (by omega) (by omega)) ?_
    rw [n_cl (p := n) (by omega), (STb_fe B1.1 f1).1 6 _ (by omega) (by omega) (by omega), (STb_fe B2.1 f2).1 6 _ (by omega) (by omega) (by omega)]
    refine T2_ob (E_eval (by omega) (by omega) (Sc0_fe hSc.1 f1) h6 hJ rfl rfl) (fun r1 r2 hr => ?_)
    obtain ⟨j1, j2, hr⟩ := hr
    have F1 := FE_tr f1 j1
    have F2 := FE_tr f2 j2
    rcases hr with ⟨w3, hw3, hK⟩ | ⟨z1, z2⟩
    case inr => exact fourZ _ _ _ _ F1 F2 (EZ_mo z1 (by omega) (Nat.le_refl _)) (EZ_mo z2 (by omega) (Nat.le_refl _))
    have V1 := UT_fe F1 U1
    have V2 := UT_fe F2 U2
    obtain ⟨x1, x2⟩ := EI_e hK
    obtain ⟨p1, p2⟩ := EI_59 hK
    have hK0 := hK
    obtain ⟨g1, l1', D1, hh1, X1, g2, l2', D2, hh2, X2, hX⟩ := hK0
    obtain ⟨va, vb, a1, a2, a3, a4, a5, a6, a7⟩ := hX.2.2.1.1 29 (t + KK) (Or.inl ⟨rfl, by omega⟩) (by unfold VwR; omega)
    have k6 := kdN_6 hX.1.1 a2
    refine T2_suc (fun k => by rw [x_partsTo]) (fun k => by rw [x_partsTo]) ?_
    rw [x1, x2]
    refine T2_ite Iff.rfl (fun _ _ => ?_) (fun z _ => absurd (by decide) z)
    refine T2_suc (fun k => by rw [x_partsTo]) (fun k => by rw [x_partsTo]) ?_
    rw [p1, p2, n_sub1 (by omega)]
    refine T2_chk (n_in (by omega) (by omega)) (n_in (by omega) (by omega)) ?_
    rw [n_cl (p := t + KK) (by omega), a1, a3]
    refine T2_ob (T2_t (s_kind hX.1.1 a2 rfl) (s_kind hX.2.1.1 a4 rfl)) (fun c d hcd => ?_)
    rw [hcd.1, hcd.2, (EVb_sz a5).2.2]
    refine T2_ite Iff.rfl (fun z _ => ?_) (fun _ _ => ?_)
    · have z5 : kdN (r1.2.2.2 28) va = 5 := (n_eq (q := 5) (by omega) (by decide)).mp z
      have kd : (szV r1.2 29 (t + KK)).2.1 = 5 := by
        have : (szV r1.2 29 (t + KK)).2.1 = kdN (r1.2.2.2 28) va := by unfold szV; rw [a1, n_cl (p := va) (by omega)]
        rw [this]; exact z5
      refine T2_suc (fun k => by rw [x_partsTo]) (fun k => by rw [x_partsTo]) ?_
      show T2 (fun k => if ¬ (K1 1 < 0 ∨ 70000 ≤ (K1 1).toNatClampNeg) then _ else _) (fun k => if ¬ (K2 1 < 0 ∨ 70000 ≤ (K2 1).toNatClampNeg) then _ else _) _
      rw [k1, l1]
      refine T2_chk (n_in (by omega) (by omega)) (n_in (by omega) (by omega)) ?_
      refine seven q KK (T 5 n) 0 0 w3 r1.2 r2.2 _ _ hL (by omega) (by omega) (by omega) (FS_fe F1) (FS_fe F2) V1 V2 hK kd k1 l1 k2 l2 rfl rfl rfl rfl ?_ ?_
      · show r1.2.2.2 5 (K1 1).toNatClampNeg = T 5 n
        rw [k1, n_cl (p := n) (by omega), (STb_fe B1.1 F1).1 5 _ (by omega) (by omega) (by omega)]
      · show r2.2.2.2 5 (K2 1).toNatClampNeg = T 5 n
        rw [l1, n_cl (p := n) (by omega), (STb_fe B2.1 F2).1 5 _ (by omega) (by omega) (by omega)]
    · refine T2_ob (T2_t (s_fail _ _) (s_fail _ _)) (fun y z hy => ?_)
      rw [hy.1, hy.2]
      obtain ⟨z1, z2⟩ := E_er (a := t) (b := 179300) (e := 1) (by omega) hK (by omega) (by decide) (by omega) (by omega)
      exact T2_some (fz 179300 _ _ (FS_tr (FS_fe F1) (FS_fe FE_er)) (FS_tr (FS_fe F2) (FS_fe FE_er)) (UT_fe FE_er V1) (UT_fe FE_er V2) (by omega) z1 z2)
  -- the keys
  have lp : ∀ (q K : Nat) (x : Int32) (i : Nat) (ρ1 ρ2 : MS) (K1 K2 : Nat → Int32), TgL T FN (lcU un T) (cnU un T) q K x → i + K = KK → FE τ1 ρ1 → FE τ2 ρ2 → ((∃ w2, w' ≤ w2 ∧ EI (t + i) w2 XC ρ1 ρ2) ∨ (EZ t 179300 ρ1 ∧ EZ t 179300 ρ2)) → K1 1 = nI n → K2 1 = nI n → K1 2 = nI t → K2 2 = nI t → K1 3 = x → K2 3 = x → T2 (fun k => x_partsTo k 1 K1 ρ1) (fun k => x_partsTo k 1 K2 ρ2) (fun r1 r2 => OuE T FN S w σ1 σ2 r1.2 r2.2) := by
    intro q
    induction q with
    | zero =>
      intro K x i ρ1 ρ2 K1 K2 hL hi f1 f2 hor k1 l1 k2 l2 k3 l3
      obtain ⟨hx, hK0⟩ := hL
      have ei : i = KK := by omega
      subst ei
      refine T2_suc (fun k => by rw [x_partsTo]) (fun k => by rw [x_partsTo]) ?_
      rw [k3, l3, hx]
      refine T2_ite Iff.rfl (fun _ _ => ?_) (fun z _ => absurd rfl z)
      exact three ρ1 ρ2 _ _ f1 f2 hor k1 l1 k2 l2
    | succ q ih =>
      intro K x i ρ1 ρ2 K1 K2 hL hi f1 f2 hor k1 l1 k2 l2 k3 l3
      obtain ⟨e, xe, he, hL⟩ := hL
      refine T2_suc (fun k => by rw [x_partsTo]) (fun k => by rw [x_partsTo]) ?_
      rw [k3, l3, xe]
      refine T2_ite Iff.rfl (fun z _ => absurd z (ne_m1 he)) (fun _ _ => ?_)
      rcases hor with ⟨w2, hw2, hJ⟩ | ⟨z1, z2⟩
      case inr =>
        refine T2_ite ⟨fun z => absurd z (EZ_e z1), fun z => absurd z (EZ_e z2)⟩ (fun z _ => absurd z (EZ_e z1)) (fun _ _ => ?_)
        exact three ρ1 ρ2 _ _ f1 f2 (Or.inr ⟨z1, z2⟩) k1 l1 k2 l2
      obtain ⟨e1, e2⟩ := EI_e hJ
      rw [e1, e2]
      refine T2_ite Iff.rfl (fun _ _ => ?_) (fun z _ => absurd rfl z)
      refine T2_chk (n_in (by omega) (by omega)) (n_in (by omega) (by omega)) ?_
      rw [n_cl (p := e) (by omega), (STb_fe B1.1 f1).1 4 _ (by omega) (by omega) (by omega), (STb_fe B2.1 f2).1 4 _ (by omega) (by omega) (by omega)]
      have b2 : ∀ (π1 π2 : MS) (i' K' : Nat), TgL T FN (lcU un T) (cnU un T) q K' (T 9 e) → i' + K' = KK → FE τ1 π1 → FE τ2 π2 → ((∃ w2, w' ≤ w2 ∧ EI (t + i') w2 XC π1 π2) ∨ (EZ t 179300 π1 ∧ EZ t 179300 π2)) → T2 (fun k => x_partsTo k 2 K1 π1) (fun k => x_partsTo k 2 K2 π2) (fun r1 r2 => OuE T FN S w σ1 σ2 r1.2 r2.2) := by
        intro π1 π2 i' K' hL' hi' j1 j2 hor'
        refine T2_suc (fun k => by rw [x_partsTo]) (fun k => by rw [x_partsTo]) ?_
        rw [k3, l3, xe]
        refine T2_chk (n_in (by omega) (by omega)) (n_in (by omega) (by omega)) ?_
        rw [n_cl (p := e) (by omega), (STb_fe B1.1 j1).1 9 _ (by omega) (by omega) (by omega), (STb_fe B2.1 j2).1 9 _ (by omega) (by omega) (by omega)]
        exact ih K' (T 9 e) i' π1 π2 _ _ hL' hi' j1 j2 hor' k1 l1 k2 l2 rfl rfl
      rcases hL with ⟨z32, hL'⟩ | ⟨z32, kk, ch, s, K', ech, hT, hN, eK, hL'⟩
      · refine T2_ite Iff.rfl (fun _ _ => ?_) (fun z _ => absurd z32 z)
        exact b2 ρ1 ρ2 i K hL' hi f1 f2 (Or.inl ⟨w2, hw2, hJ⟩)
      · refine T2_ite Iff.rfl (fun z _ => absurd z z32) (fun _ _ => ?_)
        rw [ech]
        refine T2_ob (E_workParts (by omega) hT (by omega) (Sc0_fe hSc.1 f1) hJ rfl rfl) (fun r1 r2 hr => ?_)
        obtain ⟨j1, j2, hr⟩ := hr
        refine b2 r1.2 r2.2 (i + kys T ch kk) K' hL' (by omega) (FE_tr f1 j1) (FE_tr f2 j2) (hr.imp (fun ⟨w3, h3, h⟩ => ⟨w3, by omega, ?_⟩) (fun ⟨a, b⟩ => ⟨EZ_mo a (by omega) (Nat.le_refl _), EZ_mo b (by omega) (Nat.le_refl _)⟩))
        rw [← Nat.add_assoc]; exact h
  refine T2_suc (fun k => by rw [x_partsTo]) (fun k => by rw [x_partsTo]) ?_
  rw [d1, d2]
  refine T2_chk (n_in (by omega) (by omega)) (n_in (by omega) (by omega)) ?_
  rw [n_cl (p := n) (by omega), B1.1.1 5 _ (by omega) (by omega) (by omega), B2.1.1 5 _ (by omega) (by omega) (by omega), s1, s2]
  exact lp q KK (T 5 n) 0 τ1 τ2 _ _ hL (by omega) FE_rf FE_rf (Or.inl ⟨w', Nat.le_refl _, hE⟩) d1 d2 rfl rfl rfl rfl
end PTO
end JnS263
