/-! Statements on both sides (reference): a point is given up, success. -/
/-- the last point is gone -/
def mDp (P : Nat) (τ : MS) : MS := mSc (mSc τ 63 (nI P)) 65 (τ.1 65 - τ.2.2 32 P)
section DPT
variable {T : Nat → Nat → Int32} {FN : Nat → Nat → Prop} {S : Nat → Nat → Nat → Nat → Prop} {P t w XC : Nat} {τ τ1 τ2 σ1 σ2 : MS}
theorem mDp_s {j : Nat} (h : j ≠ 63 ∧ j ≠ 65) : (mDp P τ).1 j = τ.1 j := by
  show upd (upd τ.1 63 _) 65 _ j = _
  rw [upd_other h.2, upd_other h.1]
theorem mDp_63 : (mDp P τ).1 63 = nI P := rfl
theorem UT_dp (hU : UT τ) (hP : τ.1 63 = nI (P + 1)) (h20 : P < 20) : UT (mDp P τ) ∧ (mDp P τ).1 65 = nI (suN (PtS τ) P) := by
  obtain ⟨h64, P', h63, hP', h65, h32, hl, o1, o2, o3, o4, o5⟩ := hU
  have eP : P' = P + 1 := (n_eq (by omega) (by omega)).mp (h63.symm.trans hP)
  subst eP
  have es : suN (PtS τ) (P + 1) = suN (PtS τ) P + PtS τ P := rfl
  have e65 : (mDp P τ).1 65 = nI (suN (PtS τ) P) := by
    show τ.1 65 - τ.2.2 32 P = _
    rw [h65, h32 P (by omega), n_sub (by omega) (by omega), es, Nat.add_sub_cancel]
  exact ⟨⟨h64, P, rfl, by omega, e65, fun p hp => h32 p (by omega), by show StS τ + suN (PtS τ) P ≤ 40000; omega, o1, fun p hp => o2 p (by omega), o3, o4, fun p hp => o5 p (by omega)⟩, e65⟩
theorem EI_dp (hE : EI t w XC τ1 τ2) (U1 : UT τ1) (U2 : UT τ2) (hP : τ1.1 63 = nI (P + 1)) (h20 : P < 20) : EI t w XC (mDp P τ1) (mDp P τ2) := by
  have hE0 := hE
  obtain ⟨g1, l1, B1, h1, X1, g2, l2, B2, h2, X2, n1, n2, hR, _, _, t1, _⟩ := hE0
  have r32 : ∀ j, j < P + 1 → τ1.2.2 32 j = τ2.2.2 32 j := fun j hj => hR.2.1 32 j (by unfold AlR; omega) (by unfold Zn; omega) (fun y => by unfold InA at y; rw [hP, n_cl (p := P + 1) (by omega)] at y; omega)
  refine EI_mv hE (fun j hj => mDp_s (by omega)) (fun j hj => mDp_s (by omega)) rfl rfl (fun a _ _ _ _ _ => rfl) (fun a _ _ _ _ _ => rfl) t1 ?_ (fun j hj hn => hR.2.1 30 j (by unfold AlR; omega) hj (fun y => hn (InA_n30 (σ := τ1) (fun k _ => Nat.le_refl _) y))) (fun j hj hn => hR.2.1 31 j (by unfold AlR; omega) hj (fun y => hn ?_)) (fun j hn => r32 j ?_) (fun j hj => ?_) (fun a j ha z => ?_)
  · obtain ⟨P', e, y1, y2, y3, y4, y5, y6⟩ := n1.2.1
    have eP : P' = P + 1 := (n_eq (by omega) (by omega)).mp (y1.symm.trans hP)
    subst eP
    exact ⟨P, e, rfl, by omega, y3, y4, y5, fun p hp => y6 p (by omega)⟩
  · unfold InA at y ⊢
    rw [mDp_63, n_cl (p := P) (by omega)]
    rw [hP, n_cl (p := P + 1) (by omega)] at y
    rcases y with y | y | y
    · omega
    · refine Or.inr (Or.inl ⟨rfl, ?_⟩)
      rcases y.2 with y | y
      · exact Or.inl (by omega)
      · exact Or.inr y
    · omega
  · refine Classical.byContradiction (fun c => hn ?_)
    unfold InA
    rw [mDp_63, n_cl (p := P) (by omega)]
    exact Or.inr (Or.inr (Or.inl ⟨rfl, by omega⟩))
  · by_cases e3 : j = 63
    · rw [e3]; rfl
    · by_cases e5 : j = 65
      · rw [e5]
        show τ1.1 65 - τ1.2.2 32 P = τ2.1 65 - τ2.2.2 32 P
        rw [hR.2.2.1 65 (by unfold AlS; omega), r32 P (by omega)]
      · rw [mDp_s ⟨e3, e5⟩, mDp_s ⟨e3, e5⟩]; exact hR.2.2.1 j hj
  · refine Or.inl ⟨a, j, by unfold VwR; omega, ?_, rfl, rfl⟩
    rcases z with z | z | ⟨z, p, hp, y⟩ | z | z
    · exact Or.inl z
    · exact Or.inr (Or.inl z)
    · refine Or.inr (Or.inr (Or.inl ⟨z, p, ?_, y⟩))
      rw [mDp_63, n_cl (p := P) (by omega)] at hp
      rw [hP, n_cl (p := P + 1) (by omega)]; omega
    · exact Or.inr (Or.inr (Or.inr (Or.inl z)))
    · have : a = 34 ∨ a = 36 ∨ a = 37 ∨ a = 38 ∨ a = 40 := by omega
      omega
theorem Mid_dp (hM : Mid T FN S t w XC σ1 σ2 τ1 τ2) (hP : τ1.1 63 = nI (P + 1)) (hP2 : τ2.1 63 = nI (P + 1)) (h20 : P < 20) : Mid T FN S t w XC σ1 σ2 (mDp P τ1) (mDp P τ2) := by
  obtain ⟨hE, U1, U2, B1, B2, kp⟩ := hM
  have w6 := EI_w hE
  have bs : ∀ τ : MS, Bs T FN τ → Bs T FN (mDp P τ) := fun τ b => ⟨b.1, b.2.1, (mDp_s (by omega)).trans b.2.2.1, (mDp_s (by omega)).trans b.2.2.2.1, (mDp_s (by omega)).trans b.2.2.2.2.1, (mDp_s (by omega)).trans b.2.2.2.2.2.1, b.2.2.2.2.2.2⟩
  exact ⟨EI_dp hE U1 U2 hP h20, (UT_dp U1 hP h20).1, (UT_dp U2 hP2 h20).1, bs _ B1, bs _ B2, fun j hj => ⟨(mDp_s (by omega)).trans (kp.1 j hj).1, (mDp_s (by omega)).trans (kp.1 j hj).2⟩, fun p hp => kp.2.1 p (by rw [mDp_63, n_cl (p := P) (by omega)] at hp; rw [hP, n_cl (p := P + 1) (by omega)]; omega), ⟨kp.2.2.choose, (mDp_s (by omega)).trans kp.2.2.choose_spec.1, kp.2.2.choose_spec.2⟩⟩
/-- success: the last point is given up -/
theorem E_succeed (hW : SWf T FN S) (hXC : XC ≤ 401000) (ht : t + 9 + KBn T ≤ w + 17000) {c un d v n w' : Nat} {F : List Nat} (hw : w ≤ w') (hM : Mid T FN S t w' XC σ1 σ2 τ1 τ2) (hP : Pos T S c un d v n F τ1) {L1 L2 : Nat → Int32} (d1 : L1 1 = nI n) (d2 : L2 1 = nI n) : T2 (fun k => x_succeed k 0 L1 τ1) (fun k => x_succeed k 0 L2 τ2) (fun r1 r2 => OuQ T FN S t w XC σ1 σ2 r1.2 r2.2) := by
  obtain ⟨hE, U1, U2, B1, B2, kp⟩ := id hM
  have w6 := EI_w hE
  obtain ⟨_, P, h63, hP20, _⟩ := id U1
  have k63 : τ2.1 63 = nI P := by
    obtain ⟨g1, l1, B1, h1, X1, g2, l2, B2, h2, X2, _, _, hR, _⟩ := hE
    exact (hR.2.2.1 63 (by unfold AlS; omega)).symm.trans h63
  refine T2_suc (fun k => by rw [x_succeed]) (fun k => by rw [x_succeed]) ?_
  rw [h63, k63]
  refine T2_ite Iff.rfl (fun _ _ => ?_) (fun z _ => ?_)
  · refine T2_ob (T2_t (s_fail _ _) (s_fail _ _)) (fun y z hy => ?_)
    rw [hy.1, hy.2]
    obtain ⟨z1, z2⟩ := E_er (a := t) (b := 179400) (e := 10) (by omega) hE (by omega) (by decide) (Nat.le_refl _) (by omega)
    exact T2_some (OuQ_z (I := fun _ => False) hM (FC_fe FE_er) (FC_fe FE_er) (UT_fe FE_er U1) (UT_fe FE_er U2) (Nat.le_refl _) z1 z2)
  obtain ⟨p, rfl⟩ : ∃ p, P = p + 1 := ⟨P - 1, by
    have : P ≠ 0 := fun e => z (by rw [e]; rfl)
    omega⟩
  refine T2_suc (fun k => by rw [x_succeed]) (fun k => by rw [x_succeed]) ?_
  rw [h63, k63, n_sub1 (by omega)]
  refine T2_suc (fun k => by rw [x_succeed]) (fun k => by rw [x_succeed]) ?_
  show T2 (fun k => if ¬ (nI p < 0 ∨ 20 ≤ (nI p).toNatClampNeg) then x_succeed k 3 L1 (mSc (mSc τ1 63 (nI p)) 65 (τ1.1 65 - τ1.2.2 32 (nI p).toNatClampNeg)) else none) (fun k => if ¬ (nI p < 0 ∨ 20 ≤ (nI p).toNatClampNeg) then x_succeed k 3 L2 (mSc (mSc τ2 63 (nI p)) 65 (τ2.1 65 - τ2.2.2 32 (nI p).toNatClampNeg)) else none) _
  refine T2_chk (n_in (by omega) (by omega)) (n_in (by omega) (by omega)) ?_
  rw [n_cl (p := p) (by omega)]
  refine T2_suc (fun k => by rw [x_succeed]) (fun k => by rw [x_succeed]) ?_
  have hP' : Pos T S c un d v n F (mDp p τ1) := ⟨hP.1, hP.2.1, hP.2.2.1, hP.2.2.2.1, hP.2.2.2.2.1, hP.2.2.2.2.2.1, hP.2.2.2.2.2.2⟩
  exact T2_ob (E_pass hW hXC ht hw (Mid_dp hM h63 k63 (by omega)) hP' (by exact d1) (by exact d2)) (fun r1 r2 hr => T2_some hr)
end DPT
