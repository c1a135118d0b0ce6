/-! Statements on both sides (reference): quit, continue. -/
section LEA
variable {T : Nat → Nat → Int32} {FN : Nat → Nat → Prop} {S : Nat → Nat → Nat → Nat → Prop} {t w XC : Nat} {τ τ1 τ2 σ1 σ2 : MS}
/-- the loop around a statement -/
theorem s_loopOf1 (hW : SWf T FN S) {A : Nat → Int32} {c un : Nat} : ∀ (d v n : Nat) (F : List Nat), LVs T S A c un d v n F → hlp T d n → ∃ m d' v' F', LVs T S A c un d' v' m F' ∧ F = (if T 4 m = 48 then m :: F' else F') ∧ (T 4 m = 47 ∨ T 4 m = 48) ∧ ∀ (τ : MS) (N : Nat → Int32), Bs T FN τ → N 2 = upN T n → Tm (fun k => x_loopOf k 1 N τ) (fun r => r = (nI m, τ)) := by
  intro d
  induction d with
  | zero => intro v n F hL hh; exact absurd hh (fun z => z)
  | succ d ih =>
    intro v n F hL hh
    obtain ⟨_, _, _, hu, _⟩ := hW un (d + 1) v n (LVs_S hL)
    rcases hu with ⟨_, z⟩ | ⟨m, d', v', hu, ed, hm, hv, km⟩
    · omega
    have e : d' = d := by omega
    subst e
    obtain ⟨⟨m7, _⟩, ⟨p, p8, p4⟩, _⟩ := hW un d' v' m hm
    obtain ⟨F', hL', eF⟩ := LVs_up m7 hL hu hm
    have b2 : ∀ (τ : MS) (K : Nat → Int32), K 2 = nI m → Tm (fun k => x_loopOf k 2 K τ) (fun r => r = (nI m, τ)) := fun τ K k2 => by
      refine Tm_suc (fun k => by rw [x_loopOf]) ?_
      rw [k2]
      exact Tm_some rfl
    by_cases k47 : T 4 m = 47
    · refine ⟨m, d', v', F', hL', eF, Or.inl k47, fun τ N hB n2 => ?_⟩
      refine Tm_suc (fun k => by rw [x_loopOf]) ?_
      rw [n2, hu]
      refine Tm_chk (n_in (by omega) (by omega)) ?_
      rw [n_cl (p := m) (by omega), hB.1.1 4 _ (by omega) (by omega) (by omega)]
      exact Tm_ite (fun _ => b2 _ _ (n2.trans hu)) (fun z => absurd k47 z)
    by_cases k48 : T 4 m = 48
    · refine ⟨m, d', v', F', hL', eF, Or.inr k48, fun τ N hB n2 => ?_⟩
      refine Tm_suc (fun k => by rw [x_loopOf]) ?_
      rw [n2, hu]
      refine Tm_chk (n_in (by omega) (by omega)) ?_
      rw [n_cl (p := m) (by omega), hB.1.1 4 _ (by omega) (by omega) (by omega)]
      refine Tm_ite (fun z => absurd z k47) (fun _ => ?_)
      refine Tm_chk (n_in3 (by omega) (by omega)) ?_
      exact Tm_ite (fun _ => b2 _ _ (n2.trans hu)) (fun z => absurd k48 z)
    rw [if_neg k48] at eF
    subst eF
    have hh' : hlp T d' m := by
      have hh : T 4 (upN T n).toNatClampNeg = 47 ∨ T 4 (upN T n).toNatClampNeg = 48 ∨ hlp T d' (upN T n).toNatClampNeg := hh
      rw [hu, n_cl (p := m) (by omega)] at hh
      rcases hh with z | z | z
      · exact absurd z k47
      · exact absurd z k48
      · exact z
    obtain ⟨m2, d2, v2, F2, a1, a2, a3, a4⟩ := ih v' m F hL' hh'
    refine ⟨m2, d2, v2, F2, a1, a2, a3, fun τ N hB n2 => ?_⟩
    refine Tm_suc (fun k => by rw [x_loopOf]) ?_
    rw [n2, hu]
    refine Tm_chk (n_in (by omega) (by omega)) ?_
    rw [n_cl (p := m) (by omega), hB.1.1 4 _ (by omega) (by omega) (by omega)]
    refine Tm_ite (fun z => absurd z k47) (fun _ => ?_)
    refine Tm_chk (n_in3 (by omega) (by omega)) ?_
    refine Tm_ite (fun z => absurd z k48) (fun _ => ?_)
    refine Tm_chk (n_in3 (by omega) (by omega)) ?_
    rw [hB.1.1 8 _ (by omega) (by omega) (by omega), p8]
    refine Tm_chk (n_in (by omega) (by omega)) ?_
    rw [hB.1.1 10 _ (by omega) (by omega) ⟨by omega, fun _ => by rw [n_cl (p := p) (by omega)]; omega⟩]
    refine a4 τ _ hB ?_
    show T 10 (nI p).toNatClampNeg = upN T m
    unfold upN; rw [p8]
theorem s_loopOf (hW : SWf T FN S) {A : Nat → Int32} {c un d v n : Nat} {F : List Nat} (hL : LVs T S A c un d v n F) (hh : hlp T d n) : ∃ m d' v' F', LVs T S A c un d' v' m F' ∧ F = (if T 4 m = 48 then m :: F' else F') ∧ (T 4 m = 47 ∨ T 4 m = 48) ∧ ∀ (τ : MS) (L : Nat → Int32), Bs T FN τ → L 1 = nI n → Tm (fun k => x_loopOf k 0 L τ) (fun r => r = (nI m, τ)) := by
  obtain ⟨⟨n7, _⟩, ⟨p, p8, p4⟩, _⟩ := hW un d v n (LVs_S hL)
  obtain ⟨m2, d2, v2, F2, a1, a2, a3, a4⟩ := s_loopOf1 hW d v n F hL hh
  refine ⟨m2, d2, v2, F2, a1, a2, a3, fun τ N hB d1 => ?_⟩
  refine Tm_suc (fun k => by rw [x_loopOf]) ?_
  rw [d1]
  refine Tm_chk (n_in (by omega) (by omega)) ?_
  rw [n_cl (p := n) (by omega), hB.1.1 8 _ (by omega) (by omega) (by omega), p8]
  refine Tm_chk (n_in (by omega) (by omega)) ?_
  rw [hB.1.1 10 _ (by omega) (by omega) ⟨by omega, fun _ => by rw [n_cl (p := p) (by omega)]; omega⟩]
  refine a4 τ _ hB ?_
  show T 10 (nI p).toNatClampNeg = upN T n
  unfold upN; rw [p8]
/-- quit, continue -/
theorem E_leave (hW : SWf T FN S) (hXC : XC ≤ 401000) (ht : t + 9 + KBn T ≤ w + 17000) {c un d v n w' : Nat} {F : List Nat} (hw : w ≤ w') (hM : Mid T FN S t w' XC σ1 σ2 τ1 τ2) (hP : Pos T S c un d v n F τ1) (hh : hlp T d n) {L1 L2 : Nat → Int32} (d1 : L1 1 = nI n) (d2 : L2 1 = nI n) : T2 (fun k => x_leave k 0 L1 τ1) (fun k => x_leave k 0 L2 τ2) (fun r1 r2 => OuQ T FN S t w XC σ1 σ2 r1.2 r2.2) := by
  obtain ⟨hE, U1, U2, B1, B2, kp⟩ := id hM
  have w6 := EI_w hE
  obtain ⟨_, _, ⟨n7, _, _⟩, pb3, pb4⟩ := Pos_b hW hP
  obtain ⟨hc5, hc, hLV, h2, hF, h3, hIt⟩ := id hP
  have hSc := Pos_sc B1 hP
  obtain ⟨m, d', v', F', hL', eF, km, hlo⟩ := s_loopOf hW hLV hh
  obtain ⟨⟨m7, vm6, dm20, _⟩, _, _, _, h48, _⟩ := hW un d' v' m (LVs_S hL')
  have fin8 : ∀ (s1 s2 : MS) (K1 K2 : Nat → Int32), OuQ T FN S t w XC σ1 σ2 s1 s2 → T2 (fun k => x_leave k 8 K1 s1) (fun k => x_leave k 8 K2 s2) (fun r1 r2 => OuQ T FN S t w XC σ1 σ2 r1.2 r2.2) := fun s1 s2 K1 K2 h => T2_suc (fun k => by rw [x_leave]) (fun k => by rw [x_leave]) (T2_some h)
  -- on behind the loop
  have five : ∀ (w2 : Nat) (ρ1 ρ2 : MS) (K1 K2 : Nat → Int32), w ≤ w2 → Mid T FN S t w2 XC σ1 σ2 ρ1 ρ2 → Pos T S c un d' v' m F' ρ1 → K1 100 = nI m → K2 100 = nI m → T2 (fun k => x_leave k 5 K1 ρ1) (fun k => x_leave k 5 K2 ρ2) (fun r1 r2 => OuQ T FN S t w XC σ1 σ2 r1.2 r2.2) := by
    intro w2 ρ1 ρ2 K1 K2 hw2 hK hPk k1 l1
    refine T2_suc (fun k => by rw [x_leave]) (fun k => by rw [x_leave]) ?_
    exact T2_ob (E_goOnBehind hW hXC ht hw2 hK hPk (by exact k1) (by exact l1)) (fun s1 s2 hs => fin8 _ _ _ _ hs)
  have fiveM : ∀ (ρ1 ρ2 : MS) (K1 K2 : Nat → Int32), OuQ T FN S t w XC σ1 σ2 ρ1 ρ2 → K1 100 = -1 → K2 100 = -1 → T2 (fun k => x_leave k 5 K1 ρ1) (fun k => x_leave k 5 K2 ρ2) (fun r1 r2 => OuQ T FN S t w XC σ1 σ2 r1.2 r2.2) := by
    intro ρ1 ρ2 K1 K2 hO k1 l1
    refine T2_suc (fun k => by rw [x_leave]) (fun k => by rw [x_leave]) ?_
    refine T2_ob (T2_t (s_gobM (by exact k1)) (s_gobM (by exact l1))) (fun s1 s2 hs => ?_)
    rw [hs.1, hs.2]
    exact fin8 _ _ _ _ hO
  -- block 2
  have two : ∀ (x : Int32) (K1 K2 : Nat → Int32), K1 2 = nI m → K2 2 = nI m → K1 100 = x → K2 100 = x → T2 (fun k => x_leave k 2 K1 τ1) (fun k => x_leave k 2 K2 τ2) (fun r1 r2 => OuQ T FN S t w XC σ1 σ2 r1.2 r2.2) := by
    intro x K1 K2 k2 l2 k100 l100
    refine T2_suc (fun k => by rw [x_leave]) (fun k => by rw [x_leave]) ?_
    rw [k2, l2, k100, l100]
    refine T2_chk (n_in (by omega) (by omega)) (n_in (by omega) (by omega)) ?_
    rw [n_cl (p := m) (by omega), B1.1.1 4 _ (by omega) (by omega) (by omega), B2.1.1 4 _ (by omega) (by omega) (by omega)]
    refine T2_ite Iff.rfl (fun k48 _ => ?_) (fun k48 _ => ?_)
    · rw [if_pos k48] at eF
      subst eF
      obtain ⟨d19, f1, f2, f3, f4, f5⟩ := h48 k48
      have es : suI T (m :: F') = suI T F' + itn T m := Nat.add_comm _ _
      have el : F'.length + 1 ≤ 1050 := by have : (m :: F').length = F'.length + 1 := rfl; omega
      have g2 : τ1.2.2 30 2 = nI (F'.length + 1) := h2
      rw [es] at h3 hIt pb4
      refine T2_ite Iff.rfl (fun x0 _ => ?_) (fun x0 _ => ?_)
      · -- continue: the next turn
        refine T2_suc (fun k => by rw [x_leave]) (fun k => by rw [x_leave]) ?_
        show T2 (fun k => if x = 0 then x_leave k 4 (upd K1 3 x) τ1 else x_leave k 5 (upd (upd K1 3 x) 100 (K1 2)) τ1) (fun k => if x = 0 then x_leave k 4 (upd K2 3 x) τ2 else x_leave k 5 (upd (upd K2 3 x) 100 (K2 2)) τ2) _
        refine T2_ite Iff.rfl (fun _ _ => ?_) (fun z _ => absurd x0 z)
        refine T2_suc (fun k => by rw [x_leave]) (fun k => by rw [x_leave]) ?_
        refine T2_ob (E_seek (c := itn T m) (go := 0) (F := F') hXC (by omega) m7 f3 ⟨f1, by omega⟩ (by omega) el f4 hSc hE U1 U2 g2 hF h3 hIt (Nat.le_refl _) (fun z => absurd rfl z) (by exact k2) (by exact l2) rfl rfl) (fun r1 r2 hr => ?_)
        obtain ⟨c1, c2, c3, c4, c5, c6⟩ := hr
        have lc : ∀ i, 64 ≤ i → i < 214 → r1.2.2.2 30 i = τ1.2.2 30 i := fun i h1 h2 => FC_30 c2 (by unfold Zn; omega) (by unfold Isk Inx; omega)
        have c11 : r1.2.2.2 30 1 = nI c := (FC_30 c2 (by unfold Zn; omega) (by unfold Isk Inx; omega)).trans hc
        have fk : ∀ i, 3214 ≤ i → i < 5314 → r1.2.2.2 30 i = τ1.2.2 30 i := fun i h1 h2 => FC_30 c2 (by unfold Zn; omega) (by unfold Isk Inx; omega)
        rcases c6 with ⟨z1, z7, w2, hw2, hK, k0, k2, k3, k4⟩ | ⟨z1, w2, hw2, hK, k2, k3, k4⟩ | ⟨z1, z2, z3⟩
        · obtain ⟨b, vb, xb, hSb, hvb, ub⟩ := f5.resolve_left z7
          have hD := LVs_dn m7 hL' ub hSb
          rw [if_pos k48] at hD
          refine fiveM _ _ _ _ (Or.inl ⟨w2, by omega, Mid_fc hM c2 c3 hK c4 c5, Or.inl ⟨c, un, d' + 1, vb, b, m :: F', ⟨hc5, c11, LVs_c hc5 lc hD, k2, FSk_c el fk hF, by rw [es]; exact k3, by rw [es]; exact k4⟩, k0.trans xb⟩⟩) z1 (c1.symm.trans z1)
        · exact five w2 _ _ _ _ (by omega) (Mid_fc hM c2 c3 hK c4 c5) ⟨hc5, c11, LVs_c hc5 lc hL', k2, FSk_c (by omega) fk hF.2, k3, k4⟩ z1 (c1.symm.trans z1)
        · exact fiveM _ _ _ _ (OuQ_z hM c2 c3 c4 c5 (by omega) z2 z3) z1 (c1.symm.trans z1)
      · -- quit: the for is closed
        refine T2_ob (E_closeFor hSc hE U1 U2 el g2 hF h3 (by omega) f3) (fun r1 r2 hr => ?_)
        obtain ⟨c1, c2, c3, c4, c5, c6, c7, c8⟩ := hr
        have lc : ∀ i, 64 ≤ i → i < 214 → r1.2.2.2 30 i = τ1.2.2 30 i := fun i h1 h2 => FC_30 c4 (by unfold Zn; omega) (by omega)
        have c11 : r1.2.2.2 30 1 = nI c := (FC_30 c4 (by unfold Zn; omega) (by omega)).trans hc
        have fk : ∀ i, 3214 ≤ i → i < 5314 → r1.2.2.2 30 i = τ1.2.2 30 i := fun i h1 h2 => FC_30 c4 (by unfold Zn; omega) (by omega)
        refine T2_suc (fun k => by rw [x_leave]) (fun k => by rw [x_leave]) ?_
        show T2 (fun k => if x = 0 then x_leave k 4 (upd K1 3 x) r1.2 else x_leave k 5 (upd (upd K1 3 x) 100 (K1 2)) r1.2) (fun k => if x = 0 then x_leave k 4 (upd K2 3 x) r2.2 else x_leave k 5 (upd (upd K2 3 x) 100 (K2 2)) r2.2) _
        refine T2_ite Iff.rfl (fun z _ => absurd z x0) (fun _ _ => ?_)
        exact five w' _ _ _ _ hw (Mid_fc hM c4 c5 c1 c2 c3) ⟨hc5, c11, LVs_c hc5 lc hL', c6, FSk_c (by omega) fk hF.2, c7, c8 (ItS_mo hIt (by omega))⟩ k2 l2
    · rw [if_neg k48] at eF
      subst eF
      have hPm : Pos T S c un d' v' m F τ1 := Pos_lv hP hL'
      refine T2_suc (fun k => by rw [x_leave]) (fun k => by rw [x_leave]) ?_
      show T2 (fun k => if x = 0 then x_leave k 7 (upd K1 3 x) τ1 else ob (x_goOnBehind k 0 (upd (fun _ => 0) 1 (K1 2)) τ1) (fun r2 => x_leave k 8 (upd K1 3 x) r2.2)) (fun k => if x = 0 then x_leave k 7 (upd K2 3 x) τ2 else ob (x_goOnBehind k 0 (upd (fun _ => 0) 1 (K2 2)) τ2) (fun r2 => x_leave k 8 (upd K2 3 x) r2.2)) _
      refine T2_ite Iff.rfl (fun _ _ => ?_) (fun _ _ => ?_)
      · refine T2_suc (fun k => by rw [x_leave]) (fun k => by rw [x_leave]) ?_
        refine T2_chk (by decide) (by decide) ?_
        rw [show (0 : Int32).toNatClampNeg = 0 from by decide]
        show T2 (fun k => x_leave k 8 (upd K1 3 x) (mAr τ1 30 0 (K1 2))) (fun k => x_leave k 8 (upd K2 3 x) (mAr τ2 30 0 (K2 2))) _
        rw [k2, l2]
        exact fin8 _ _ _ _ (OuQ_0 hW hw hM hPm)
      · exact T2_ob (E_goOnBehind hW hXC ht hw hM hPm (by exact k2) (by exact l2)) (fun s1 s2 hs => fin8 _ _ _ _ hs)
  refine T2_suc (fun k => by rw [x_leave]) (fun k => by rw [x_leave]) ?_
  refine T2_ob (T2_t (hlo τ1 _ B1 (by exact d1)) (hlo τ2 _ B2 (by exact d2))) (fun r1 r2 hr => ?_)
  rw [hr.1, hr.2, d1, d2]
  refine T2_chk (n_in (by omega) (by omega)) (n_in (by omega) (by omega)) ?_
  rw [n_cl (p := n) (by omega)]
  show T2 (fun k => if τ1.2.2 4 n = 49 then _ else _) (fun k => if τ2.2.2 4 n = 49 then _ else _) _
  rw [B1.1.1 4 _ (by omega) (by omega) (by omega), B2.1.1 4 _ (by omega) (by omega) (by omega)]
  refine T2_ite Iff.rfl (fun _ _ => two 1 _ _ rfl rfl rfl rfl) (fun _ _ => ?_)
  refine T2_suc (fun k => by rw [x_leave]) (fun k => by rw [x_leave]) ?_
  exact two 0 _ _ rfl rfl rfl rfl
end LEA
