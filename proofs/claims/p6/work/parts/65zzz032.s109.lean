/-! The pile; rows are measured; tuples are made (reference). -/
def mPu (σ : MS) (t : Nat) (x : Int32) : MS := mSc (mAr σ 29 t x) 59 (nI (t + 1))
section TUP
variable {g : Nat → Prop} {l : List Nat} {B h t : Nat} {σ : MS}
theorem s_push {t : Nat} (h59 : σ.1 59 = nI t) (ht : t < 185000) (L : Nat → Int32) : Tm (fun k => x_push k 0 L σ) (fun r => r = (0, mPu σ t (L 1))) := by
  refine Tm_suc (fun k => by rw [x_push]) ?_
  rw [h59]
  refine Tm_chk (n_in (by omega) (by omega)) ?_
  rw [n_cl (p := t) (by omega)]
  refine Tm_suc (fun k => by rw [x_push]) ?_
  refine Tm_some ?_
  show (0, mSc (mAr σ 29 t (L 1)) 59 (σ.1 59 + 1)) = _
  rw [h59, n_add1]; rfl
theorem mPu_s {x : Int32} {j : Nat} (hj : j ≠ 59) : (mPu σ t x).1 j = σ.1 j := upd_other hj
theorem mPu_59 {x : Int32} : (mPu σ t x).1 59 = nI (t + 1) := rfl
theorem mPu_o {x : Int32} {j : Nat} (hj : j ≠ 29) : (mPu σ t x).2.2 j = σ.2.2 j := mAr_o hj
theorem mPu_29 {x : Int32} : (mPu σ t x).2.2 29 = upd (σ.2.2 29) t x := rfl
theorem FW_pu {x : Int32} {f : Nat} (hf : f ≤ t) : FW f σ (mPu σ t x) := FW_tr (FW_pile hf) (FW_sc (Or.inr (Or.inr (Or.inl rfl))))
theorem HS_pu {x : Int32} (hS : HS g l B h σ) : HS g l B h (mPu σ t x) := HS_c hS (mPu_s (by decide)) (mPu_s (by decide)) (mPu_o (by decide))
theorem ErB_c {τ : MS} (h56 : τ.1 56 = σ.1 56) (h : ErB σ) : ErB τ := by unfold ErB; rw [h56]; exact h
/-- a new row is measured -/
theorem s_measured {τ : MS} {k n f : Nat} (hS : HS g l B h σ) (hE : ErB σ) (hn : h + 4 + n ≤ B + 870000) (hk : k = 5 ∨ k = 6) (hFW : FW f σ τ) (t59 : τ.1 59 = nI f) (t56 : τ.1 56 = σ.1 56) (t55 : τ.1 55 = nI (h + 4 + n)) (th : τ.2.2 28 h = nI k) (th1 : τ.2.2 28 (h + 1) = nI n) (hm : ∀ i, i < n → ∃ m, τ.2.2 28 (h + 4 + i) = nI m ∧ (m < 3 ∨ g m)) (hag : ∀ i, B + 4 ≤ i → i < h → τ.2.2 28 i = σ.2.2 28 i) {L : Nat → Int32} (hL : L 1 = nI h) : Tm (fun k => x_measured k 0 L τ) (VO g B h f σ) := by
  have hb := HS_b hS
  have hB := hS.2.1
  have hSt : HS g (l ++ [h]) B (h + 4 + n) τ := HS_fin hS hn (hFW.1 54 (by decide)) t55 hag th1
  -- the end
  have fin : ∀ (s u : Nat) (N : Nat → Int32), N 1 = nI h → N 2 = nI (1 + s) → N 3 = nI u → s = smS (τ.2.2 28) h n → s ≤ 1000 * n → u ≤ 30 → (∀ i, i < n → ∀ m, τ.2.2 28 (h + 4 + i) = nI m → (m < 3 ∨ g m) → htN (τ.2.2 28) m ≤ u) → Tm (fun k => x_measured k 4 N τ) (VO g B h f σ) := by
    intro s u N n1 n2 n3 hs hsb hu hht
    refine Tm_suc (fun k => by rw [x_measured]) ?_
    rw [n1, show nI h + 2 = nI (h + 2) from n_add (q := 2) (by omega)]
    refine Tm_chk (n_in (by omega) (by omega)) ?_
    rw [n_cl (p := h + 2) (by omega), n2]
    show Tm (fun k => x_measured k 5 N (mAr τ 28 (h + 2) (nI (1 + s)))) _
    refine Tm_suc (fun k => by rw [x_measured]) ?_
    rw [n1, show nI h + 3 = nI (h + 3) from n_add (q := 3) (by omega)]
    refine Tm_chk (n_in (by omega) (by omega)) ?_
    rw [n_cl (p := h + 3) (by omega), n3, n_add1]
    show Tm (fun k => x_measured k 6 N (mAr (mAr τ 28 (h + 2) (nI (1 + s))) 28 (h + 3) (nI (u + 1)))) _
    have e2 : (mAr (mAr τ 28 (h + 2) (nI (1 + s))) 28 (h + 3) (nI (u + 1))).2.2 28 = upd (upd (τ.2.2 28) (h + 2) (nI (1 + s))) (h + 3) (nI (u + 1)) := by rw [mAr_s, mAr_s]
    have eS : ∀ j, (mAr (mAr τ 28 (h + 2) (nI (1 + s))) 28 (h + 3) (nI (u + 1))).1 j = τ.1 j := fun _ => rfl
    have eF : FW f σ (mAr (mAr τ 28 (h + 2) (nI (1 + s))) 28 (h + 3) (nI (u + 1))) := FW_tr hFW (FW_tr (FW_ar (Or.inl rfl)) (FW_ar (Or.inl rfl)))
    generalize mAr (mAr τ 28 (h + 2) (nI (1 + s))) 28 (h + 3) (nI (u + 1)) = υ at e2 eS eF
    have u2 : ∀ j, j ≠ h + 2 → j ≠ h + 3 → υ.2.2 28 j = τ.2.2 28 j := fun j h1 h2 => by rw [e2, upd_other h2, upd_other h1]
    have us : υ.2.2 28 (h + 2) = nI (1 + s) := by rw [e2, upd_other (by omega), upd_same]
    have ut : υ.2.2 28 (h + 3) = nI (u + 1) := by rw [e2, upd_same]
    have uag : ∀ i, B + 4 ≤ i → i < h → υ.2.2 28 i = σ.2.2 28 i := fun i h1 h2 => by rw [u2 i (by omega) (by omega)]; exact hag i h1 h2
    have hSu : HS g (l ++ [h]) B (h + 4 + n) υ := HS_fin hS hn ((eS 54).trans (hFW.1 54 (by decide))) ((eS 55).trans t55) uag (by rw [u2 _ (by omega) (by omega)]; exact th1)
    have hEu : ErB υ := ErB_c ((eS 56).trans t56) hE
    have er0 : ∀ (w : Int32 × MS), w = (0, mEr υ 5) ∨ (w = (0, υ) ∧ ¬ υ.1 56 = 0) → VO g B h f σ w := by
      intro w hw
      rcases hw with hw | ⟨hw, hne⟩
      · rw [hw]
        refine ⟨g, _, _, ⟨HS_er hSu 5, fun _ z => z, by omega, uag⟩, FW_tr eF FW_er, ?_, ErB_er (e := 5) hEu (by decide), fun _ => mEr_e (by decide), Vd_0⟩
        exact (mEr_s (by decide)).trans ((eS 59).trans t59)
      · rw [hw]
        exact ⟨g, _, _, ⟨hSu, fun _ z => z, by omega, uag⟩, eF, (eS 59).trans t59, hEu, fun _ => hne, Vd_0⟩
    refine Tm_suc (fun k => by rw [x_measured]) ?_
    refine Tm_ob (P := VO g B h f σ) ?_ (fun r hr => Tm_some hr)
    have l2 : ∀ M : Nat → Int32, M 1 = nI h → (υ.1 56 = 0 → 1 + s ≤ 1000 ∧ u + 1 ≤ 30) → Tm (fun k => x_checked k 2 M υ) (VO g B h f σ) := fun M m1 hok => by
      refine Tm_suc (fun k => by rw [x_checked]) ?_
      refine Tm_ite (fun z => ?_) (fun z => ?_)
      · refine Tm_suc (fun k => by rw [x_checked]) ?_
        obtain ⟨o1, o2⟩ := hok z
        have hnn : n ≤ s := by
          rw [hs]
          have hh : ∀ j, j ≤ n → j ≤ smS (τ.2.2 28) h j := by
            intro j
            induction j with
            | zero => intro _; exact Nat.zero_le _
            | succ j ih =>
              intro hj
              obtain ⟨m, m1, m2⟩ := hm j (by omega)
              have hmb := HS_vb hSt m2
              show j + 1 ≤ smS (τ.2.2 28) h j + szN (τ.2.2 28) (τ.2.2 28 (h + 4 + j)).toNatClampNeg
              rw [m1, n_cl (by omega)]
              have := (szN_b hSt m2).1
              have := ih (by omega)
              omega
          exact hh n (Nat.le_refl _)
        have hxs : ∀ m, (m < 3 ∨ g m) → szN (υ.2.2 28) m = szN (τ.2.2 28) m ∧ htN (υ.2.2 28) m = htN (τ.2.2 28) m := fun m hm2 => by
          have a := szN_ext (H' := υ.2.2 28) uag hS.2.2.2.2 (by omega) hm2
          have b := szN_ext (H' := τ.2.2 28) hag hS.2.2.2.2 (by omega) hm2
          exact ⟨a.1.trans b.1.symm, a.2.trans b.2.symm⟩
        have hsm : ∀ j, j ≤ n → smS (υ.2.2 28) h j = smS (τ.2.2 28) h j := by
          intro j
          induction j with
          | zero => intro _; rfl
          | succ j ih =>
            intro hj
            obtain ⟨m, m1, m2⟩ := hm j (by omega)
            have hmb := HS_vb hSt m2
            show smS (υ.2.2 28) h j + szN (υ.2.2 28) (υ.2.2 28 (h + 4 + j)).toNatClampNeg = smS (τ.2.2 28) h j + szN (τ.2.2 28) (τ.2.2 28 (h + 4 + j)).toNatClampNeg
            rw [ih (by omega), u2 _ (by omega) (by omega), m1, n_cl (by omega), (hxs m m2).1]
        have hG : GOn (υ.2.2 28) g h k n (1 + s) (u + 1) := by
          refine ⟨by rw [u2 _ (by omega) (by omega)]; exact th, by rw [u2 _ (by omega) (by omega)]; exact th1, us, ut, by omega, by omega, by omega, by omega, fun z => absurd z (by omega), fun z => absurd z (by omega), fun z => absurd z (by omega), fun _ => ⟨by rw [hsm n (Nat.le_refl _), ← hs], fun i hi => ?_⟩⟩
          obtain ⟨m, m1, m2⟩ := hm i hi
          refine ⟨m, by rw [u2 _ (by omega) (by omega)]; exact m1, m2, ?_⟩
          rw [(hxs m m2).2]
          have := hht i hi m m1 m2
          omega
        exact Tm_some ⟨_, _, _, HS_good hS hn ((eS 54).trans (hFW.1 54 (by decide))) ((eS 55).trans t55) uag hG, eF, (eS 59).trans t59, hEu, fun y => by rw [eS 56, t56]; exact y, h, m1, Or.inr (Or.inr rfl)⟩
      · refine Tm_suc (fun k => by rw [x_checked]) ?_
        refine Tm_suc (fun k => by rw [x_checked]) ?_
        exact Tm_some (er0 _ (Or.inr ⟨rfl, z⟩))
    have l1 : ∀ M : Nat → Int32, Tm (fun k => x_checked k 1 M υ) (VO g B h f σ) := fun M => by
      refine Tm_suc (fun k => by rw [x_checked]) ?_
      refine Tm_ob (s_fail _ υ) (fun r hr => ?_)
      rw [hr]
      show Tm (fun k => x_checked k 2 M (mEr υ 5)) _
      refine Tm_suc (fun k => by rw [x_checked]) ?_
      refine Tm_ite (fun z => absurd z (mEr_e (by decide))) (fun _ => ?_)
      refine Tm_suc (fun k => by rw [x_checked]) ?_
      refine Tm_suc (fun k => by rw [x_checked]) ?_
      exact Tm_some (er0 _ (Or.inl rfl))
    refine Tm_suc (fun k => by rw [x_checked]) ?_
    have n1' : upd (fun _ => (0 : Int32)) 1 (N 1) 1 = nI h := n1
    rw [n1', show nI h + 2 = nI (h + 2) from n_add (q := 2) (by omega), show nI h + 3 = nI (h + 3) from n_add (q := 3) (by omega)]
    refine Tm_ite (fun z => ?_) (fun z => l2 _ n1' (fun w => absurd w z))
    refine Tm_chk (n_in (by omega) (by omega)) ?_
    rw [n_cl (p := h + 2) (by omega), us]
    refine Tm_ite (fun _ => l1 _) (fun w => ?_)
    have w : 1 + s ≤ 1000 := by
      by_cases c : 1000 < 1 + s
      · exact absurd ((n_lt (p := 1000) (by decide) (by omega)).mpr c) w
      · omega
    refine Tm_chk (n_in (by omega) (by omega)) ?_
    rw [n_cl (p := h + 3) (by omega), ut]
    refine Tm_ite (fun w2 => ?_) (fun _ => l1 _)
    have w2 := (n_le (q := 30) (by omega) (by decide)).mp w2
    exact l2 _ n1' (fun _ => ⟨w, w2⟩)
  -- member after member
  have l1 : ∀ (j i s u : Nat) (N : Nat → Int32), j + i = n → N 1 = nI h → N 2 = nI (1 + s) → N 3 = nI u → N 4 = nI n → N 5 = nI i → s = smS (τ.2.2 28) h i → s ≤ 1000 * i → u ≤ 30 → (∀ i', i' < i → ∀ m, τ.2.2 28 (h + 4 + i') = nI m → (m < 3 ∨ g m) → htN (τ.2.2 28) m ≤ u) → Tm (fun k => x_measured k 1 N τ) (VO g B h f σ) := by
    intro j
    induction j with
    | zero =>
      intro i s u N hi n1 n2 n3 n4 n5 hs hsb hu hht
      have hi : i = n := by omega
      subst hi
      refine Tm_suc (fun k => by rw [x_measured]) ?_
      rw [n4, n5]
      exact Tm_ite (fun _ => fin s u N n1 n2 n3 hs hsb hu hht) (fun w => absurd ((n_le (by omega) (by omega)).mpr (by omega)) w)
    | succ j ih =>
      intro i s u N hi n1 n2 n3 n4 n5 hs hsb hu hht
      obtain ⟨m, m1, m2⟩ := hm i (by omega)
      have hmb := HS_vb hSt m2
      obtain ⟨z1, z2, z3⟩ := szN_b hSt m2
      have v1 : smS (τ.2.2 28) h (i + 1) = s + szN (τ.2.2 28) m := by
        show smS (τ.2.2 28) h i + szN (τ.2.2 28) (τ.2.2 28 (h + 4 + i)).toNatClampNeg = _
        rw [m1, n_cl (by omega), hs]
      have uniq : ∀ m', τ.2.2 28 (h + 4 + i) = nI m' → (m' < 3 ∨ g m') → m' = m := fun m' q1 q2 => (n_eq (by have := HS_vb hSt q2; omega) (by omega)).mp (q1.symm.trans m1)
      have nx : ∀ (u' : Nat) (M : Nat → Int32), u' ≤ 30 → u ≤ u' → htN (τ.2.2 28) m ≤ u' → M 1 = nI h → M 2 = nI (1 + (s + szN (τ.2.2 28) m)) → M 100 = nI u' → M 4 = nI n → M 5 = nI i → Tm (fun k => x_measured k 3 M τ) (VO g B h f σ) := fun u' M hu' huu hmu q1 q2 q3 q4 q5 => by
        refine Tm_suc (fun k => by rw [x_measured]) ?_
        refine ih (i + 1) (s + szN (τ.2.2 28) m) u' _ (by omega) q1 q2 q3 q4 (by show M 5 + 1 = _; rw [q5, n_add1]) v1.symm (by omega) hu' (fun i' hi' m' p1 p2 => ?_)
        by_cases e : i' = i
        · subst e; rw [uniq m' p1 p2]; exact hmu
        · have := hht i' (by omega) m' p1 p2
          omega
      refine Tm_suc (fun k => by rw [x_measured]) ?_
      rw [n4, n5, n1, n2, n3, show nI h + 4 = nI (h + 4) from n_add (q := 4) (by omega), n_add (by omega)]
      refine Tm_ite (fun w => absurd ((n_le (by omega) (by omega)).mp w) (by omega)) (fun _ => ?_)
      refine Tm_chk (n_in (by omega) (by omega)) ?_
      rw [n_cl (p := h + 4 + i) (by omega), m1]
      refine Tm_ob (s_size hSt m2 rfl) (fun r3 hr3 => ?_)
      rw [hr3]
      refine Tm_ob (s_height hSt m2 rfl) (fun r4 hr4 => ?_)
      rw [hr4]
      have e12 : nI (1 + s) + nI (szN (τ.2.2 28) m) = nI (1 + (s + szN (τ.2.2 28) m)) := by rw [n_add (by omega), Nat.add_assoc]
      refine Tm_ite (fun w => ?_) (fun w => ?_)
      · have w := (n_le (by omega) (by omega)).mp w
        refine Tm_suc (fun k => by rw [x_measured]) ?_
        exact nx u _ hu (Nat.le_refl _) w n1 e12 n3 n4 n5
      · have w : u < htN (τ.2.2 28) m := by
          by_cases c : htN (τ.2.2 28) m ≤ u
          · exact absurd ((n_le (by omega) (by omega)).mpr c) w
          · omega
        refine Tm_ob (s_height hSt m2 rfl) (fun r6 hr6 => ?_)
        rw [hr6]
        exact nx (htN (τ.2.2 28) m) _ z3 (by omega) (Nat.le_refl _) n1 e12 rfl n4 n5
  refine Tm_suc (fun k => by rw [x_measured]) ?_
  rw [hL, n_add1]
  refine Tm_chk (n_in (by omega) (by omega)) ?_
  rw [n_cl (p := h + 1) (by omega), th1]
  exact l1 n 0 0 0 _ (by omega) hL rfl rfl rfl rfl rfl (by omega) (by decide) (fun i' hi' => absurd hi' (Nat.not_lt_zero i'))
end TUP
