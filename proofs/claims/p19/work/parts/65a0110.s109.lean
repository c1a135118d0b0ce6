section JnS109
/-! The pile; rows are measured; tuples are made (reference). -/
def mPu (σ : MS) (t : Nat) (x : Int32) : MS := mSc (mAr σ 29 t x) 59 (nI (t + 1))
section TUP
variable {g : Nat → Prop} {l : List Nat} {B h t : Nat} {σ : MS}
theorem s_push {t : Nat} (h59 : σ.1 59 = nI t) (ht : t < 185000) (L : Nat → Int32) : Tm (fun k => x_push k 0 L σ) (fun r => r = (0, mPu σ t (L 1))) := by
  refine Tm_suc (fun k => by rw [x_push]) ?_
  rw [h59]
  refine Tm_chk (n_in (by omega) (by omega)) ?_
  rw [n_cl (p := t) (by omega)]
  refine Tm_suc (fun k => by rw [x_push]) ?_
  refine Tm_some ?_
  show (0, mSc (mAr σ 29 t (L 1)) 59 (σ.1 59 + 1)) = _
  rw [h59, n_add1]; rfl
theorem mPu_s {x : Int32} {j : Nat} (hj : j ≠ 59) : (mPu σ t x).1 j = σ.1 j := upd_other hj
theorem mPu_59 {x : Int32} : (mPu σ t x).1 59 = nI (t + 1) := rfl
theorem mPu_o {x : Int32} {j : Nat} (hj : j ≠ 29) : (mPu σ t x).2.2 j = σ.2.2 j := mAr_o hj
theorem mPu_29 {x : Int32} : (mPu σ t x).2.2 29 = upd (σ.2.2 29) t x := rfl
theorem FW_pu {x : Int32} {f : Nat} (hf : f ≤ t) : FW f σ (mPu σ t x) := FW_tr (FW_pile hf) (FW_sc (Or.inr (Or.inr (Or.inl rfl))))
theorem HS_pu {x : Int32} (hS : HS g l B h σ) : HS g l B h (mPu σ t x) := HS_c hS (mPu_s (by decide)) (mPu_s (by decide)) (mPu_o (by decide))
theorem ErB_c {τ : MS} (h56 : τ.1 56 = σ.1 56) (h : ErB σ) : ErB τ := by unfold ErB; rw [h56]; exact h
/-- a new row is measured -/
theorem s_measured {τ : MS} {k n f : Nat} (hS : HS g l B h σ) (hE : ErB σ) (hn : h + 4 + n ≤ B + 870000) (hk : k = 5 ∨ k = 6) (hFW : FW f σ τ) (t59 : τ.1 59 = nI f) (t56 : τ.1 56 = σ.1 56) (t55 : τ.1 55 = nI (h + 4 + n)) (th : τ.2.2 28 h = nI k) (th1 : τ.2.2 28 (h + 1) = nI n) (hm : ∀ i, i < n → ∃ m, τ.2.2 28 (h + 4 + i) = nI m ∧ (m < 3 ∨ g m)) (hag : ∀ i, B + 4 ≤ i → i < h → τ.2.2 28 i = σ.2.2 28 i) {L : Nat → Int32} (hL : L 1 = nI h) : Tm (fun k => x_measured k 0 L τ) (VO g B h f σ) := by
  have hb := HS_b hS
  have hB := hS.2.1
  have hSt : HS g (l ++ [h]) B (h + 4 + n) τ := HS_fin hS hn (hFW.1 54 (by decide)) t55 hag th1
  -- the end
  have fin : ∀ (s u : Nat) (N : Nat → Int32), N 1 = nI h → N 2 = nI (1 + s) → N 3 = nI u → s = smS (τ.2.2 28) h n → s ≤ 1000 * n → u ≤ 30 → (∀ i, i < n → ∀ m, τ.2.2 28 (h + 4 + i) = nI m → (m < 3 ∨ g m) → htN (τ.2.2 28) m ≤ u) → Tm (fun k => x_measured k 4 N τ) (VO g B h f σ) := by
    intro s u N n1 n2 n3 hs hsb hu hht
    refine Tm_suc (fun k => by rw [x_measured]) ?_
    rw [n1, show nI h + 2 = nI (h + 2) from n_add (q := 2) (by omega)]
    refine Tm_chk (n_in (by omega) (by omega)) ?_
    rw [n_cl (p := h + 2) (by omega), n2]
    show Tm (fun k => x_measured k 5 N (mAr τ 28 (h + 2) (nI (1 + s)))) _
    refine Tm_suc (fun k => by rw [x_measured]) ?_
    rw [n1, show nI h + 3 = nI (h + 3) from n_add (q := 3) (by omega)]
    refine Tm_chk (n_in (by omega) (by omega)) ?_
    rw [n_cl (p := h + 3) (by omega), n3, n_add1]
    show Tm (fun k => x_measured k 6 N (mAr (mAr τ 28 (h + 2) (nI (1 + s))) 28 (h + 3) (nI (u + 1)))) _
    have e2 : (mAr (mAr τ 28 (h + 2) (nI (1 + s))) 28 (h + 3) (nI (u + 1))).2.2 28 = upd (upd (τ.2.2 28) (h + 2) (nI (1 + s))) (h + 3) (nI (u + 1)) := by rw [mAr_s, mAr_s]
    have eS : ∀ j, (mAr (mAr τ 28 (h + 2) (nI (1 + s))) 28 (h + 3) (nI (u + 1))).1 j = τ.1 j := fun _ => rfl
    have eF : FW f σ (mAr (mAr τ 28 (h + 2) (nI (1 + s))) 28 (h + 3) (nI (u + 1))) := FW_tr hFW (FW_tr (FW_ar (Or.inl rfl)) (FW_ar (Or.inl rfl)))
    generalize mAr (mAr τ 28 (h + 2) (nI (1 + s))) 28 (h + 3) (nI (u + 1)) = υ at e2 eS eF
    have u2 : ∀ j, j ≠ h + 2 → j ≠ h + 3 → υ.2.2 28 j = τ.2.2 28 j := fun j h1 h2 => by rw [e2, upd_other h2, upd_other h1]
    have us : υ.2.2 28 (h + 2) = nI (1 + s) := by rw [e2, upd_other (by omega), upd_same]
    have ut : υ.2.2 28 (h + 3) = nI (u + 1) := by rw [e2, upd_same]
    have uag : ∀ i, B + 4 ≤ i → i < h → υ.2.2 28 i = σ.2.2 28 i := fun i h1 h2 => by rw [u2 i (by omega) (by omega)]; exact hag i h1 h2
    have hSu : HS g (l ++ [h]) B (h + 4 + n) υ := HS_fin hS hn ((eS 54).trans (hFW.1 54 (by decide))) ((eS 55).trans t55) uag (by rw [u2 _ (by omega) (by omega)]; exact th1)
    have hEu : ErB υ := ErB_c ((eS 56).trans t56) hE
    have er0 : ∀ (w : Int32 × MS), w = (0, mEr υ 5) ∨ (w = (0, υ) ∧ ¬ υ.1 56 = 0) → VO g B h f σ w := by
      intro w hw
      rcases hw with hw | ⟨hw, hne⟩
      · rw [hw]
        refine ⟨g, _, _, ⟨HS_er hSu 5, fun _ z => z, by omega, uag⟩, FW_tr eF FW_er, ?_, ErB_er (e := 5) hEu (by decide), fun _ => mEr_e (by decide), Vd_0⟩
        exact (mEr_s (by decide)).trans ((eS 59).trans t59)
      · rw [hw]
        exact ⟨g, _, _, ⟨hSu, fun _ z => z, by omega, uag⟩, eF, (eS 59).trans t59, hEu, fun _ => hne, Vd_0⟩
    refine Tm_suc (fun k => by rw [x_measured]) ?_
    refine Tm_ob (P := VO g B h f σ) ?_ (fun r hr => Tm_some hr)
    have l2 : ∀ M : Nat → Int32, M 1 = nI h → (υ.1 56 = 0 → 1 + s ≤ 1000 ∧ u + 1 ≤ 30) → Tm (fun k => x_checked k 2 M υ) (VO g B h f σ) := fun M m1 hok => by
      refine Tm_suc (fun k => by rw [x_checked]) ?_
      refine Tm_ite (fun z => ?_) (fun z => ?_)
      · refine Tm_suc (fun k => by rw [x_checked]) ?_
        obtain ⟨o1, o2⟩ := hok z
        have hnn : n ≤ s := by
          rw [hs]
          have hh : ∀ j, j ≤ n → j ≤ smS (τ.2.2 28) h j := by
            intro j
            induction j with
            | zero => intro _; exact Nat.zero_le _
            | succ j ih =>
              intro hj
              obtain ⟨m, m1, m2⟩ := hm j (by omega)
              have hmb := HS_vb hSt m2
              show j + 1 ≤ smS (τ.2.2 28) h j + szN (τ.2.2 28) (τ.2.2 28 (h + 4 + j)).toNatClampNeg
              rw [m1, n_cl (by omega)]
              have := (szN_b hSt m2).1
              have := ih (by omega)
              omega
          exact hh n (Nat.le_refl _)
        have hxs : ∀ m, (m < 3 ∨ g m) → szN (υ.2.2 28) m = szN (τ.2.2 28) m ∧ htN (υ.2.2 28) m = htN (τ.2.2 28) m := fun m hm2 => by
          have a := szN_ext (H' := υ.2.2 28) uag hS.2.2.2.2 (by omega) hm2
          have b := szN_ext (H' := τ.2.2 28) hag hS.2.2.2.2 (by omega) hm2
          exact ⟨a.1.trans b.1.symm, a.2.trans b.2.symm⟩
        have hsm : ∀ j, j ≤ n → smS (υ.2.2 28) h j = smS (τ.2.2 28) h j := by
          intro j
          induction j with
          | zero => intro _; rfl
          | succ j ih =>
            intro hj
            obtain ⟨m, m1, m2⟩ := hm j (by omega)
            have hmb := HS_vb hSt m2
            show smS (υ.2.2 28) h j + szN (υ.2.2 28) (υ.2.2 28 (h + 4 + j)).toNatClampNeg = smS (τ.2.2 28) h j + szN (τ.2.2 28) (τ.2.2 28 (h + 4 + j)).toNatClampNeg
            rw [ih (by omega), u2 _ (by omega) (by omega), m1, n_cl (by omega), (hxs m m2).1]
        have hG : GOn (υ.2.2 28) g h k n (1 + s) (u + 1) := by
          refine ⟨by rw [u2 _ (by omega) (by omega)]; exact th, by rw [u2 _ (by omega) (by omega)]; exact th1, us, ut, by omega, by omega, by omega, by omega, fun z => absurd z (by omega), fun z => absurd z (by omega), fun z => absurd z (by omega), fun _ => ⟨by rw [hsm n (Nat.le_refl _), ← hs], fun i hi => ?_⟩⟩
          obtain ⟨m, m1, m2⟩ := hm i hi
          refine ⟨m, by rw [u2 _ (by omega) (by omega)]; exact m1, m2, ?_⟩
          rw [(hxs m m2).2]
          have := hht i hi m m1 m2
          omega
        exact Tm_some ⟨_, _, _, HS_good hS hn ((eS 54).trans (hFW.1 54 (by decide))) ((eS 55).trans t55) uag hG, eF, (eS 59).trans t59, hEu, fun y => by rw [eS 56, t56]; exact y, h, m1, Or.inr (Or.inr rfl)⟩
      · refine Tm_suc (fun k => by rw [x_checked]) ?_
        refine Tm_suc (fun k => by rw [x_checked]) ?_
        exact Tm_some (er0 _ (Or.inr ⟨rfl, z⟩))
    have l1 : ∀ M : Nat → Int32, Tm (fun k => x_checked k 1 M υ) (VO g B h f σ) := fun M => by
      refine Tm_suc (fun k => by rw [x_checked]) ?_
      refine Tm_ob (s_fail _ υ) (fun r hr => ?_)
      rw [hr]
      show Tm (fun k => x_checked k 2 M (mEr υ 5)) _
      refine Tm_suc (fun k => by rw [x_checked]) ?_
      refine Tm_ite (fun z => absurd z (mEr_e (by decide))) (fun _ => ?_)
      refine Tm_suc (fun k => by rw [x_checked]) ?_
      refine Tm_suc (fun k => by rw [x_checked]) ?_
      exact Tm_some (er0 _ (Or.inl rfl))
    refine Tm_suc (fun k => by rw [x_checked]) ?_
    have n1' : upd (fun _ => (0 : Int32)) 1 (N 1) 1 = nI h := n1
    rw [n1', show nI h + 2 = nI (h + 2) from n_add (q := 2) (by omega), show nI h + 3 = nI (h + 3) from n_add (q := 3) (by omega)]
    refine Tm_ite (fun z => ?_) (fun z => l2 _ n1' (fun w => absurd w z))
    refine Tm_chk (n_in (by omega) (by omega)) ?_
    rw [n_cl (p := h + 2) (by omega), us]
    refine Tm_ite (fun _ => l1 _) (fun w => ?_)
    have w : 1 + s ≤ 1000 := by
      by_cases c : 1000 < 1 + s
      · exact absurd ((n_lt (p := 1000) (by decide) (by omega)).mpr c) w
      · omega
    refine Tm_chk (n_in (by omega) (by omega)) ?_
    rw [n_cl (p := h + 3) (by omega), ut]
    refine Tm_ite (fun w2 => ?_) (fun _ => l1 _)
    have w2 := (n_le (q := 30) (by omega) (by decide)).mp w2
    exact l2 _ n1' (fun _ => ⟨w, w2⟩)
  -- member after member
  have l1 : ∀ (j i s u : Nat) (N : Nat → Int32), j + i = n → N 1 = nI h → N 2 = nI (1 + s) → N 3 = nI u → N 4 = nI n → N 5 = nI i → s = smS (τ.2.2 28) h i → s ≤ 1000 * i → u ≤ 30 → (∀ i', i' < i → ∀ m, τ.2.2 28 (h + 4 + i') = nI m → (m < 3 ∨ g m) → htN (τ.2.2 28) m ≤ u) → Tm (fun k => x_measured k 1 N τ) (VO g B h f σ) := by
    intro j
    induction j with
    | zero =>
      intro i s u N hi n1 n2 n3 n4 n5 hs hsb hu hht
      have hi : i = n := by omega
      subst hi
      refine Tm_suc (fun k => by rw [x_measured]) ?_
      rw [n4, n5]
      exact Tm_ite (fun _ => fin s u N n1 n2 n3 hs hsb hu hht) (fun w => absurd ((n_le (by omega) (by omega)).mpr (by omega)) w)
    | succ j ih =>
      intro i s u N hi n1 n2 n3 n4 n5 hs hsb hu hht
      obtain ⟨m, m1, m2⟩ := hm i (by omega)
      have hmb := HS_vb hSt m2
      obtain ⟨z1, z2, z3⟩ := szN_b hSt m2
      have v1 : smS (τ.2.2 28) h (i + 1) = s + szN (τ.2.2 28) m := by
        show smS (τ.2.2 28) h i + szN (τ.2.2 28) (τ.2.2 28 (h + 4 + i)).toNatClampNeg = _
        rw [m1, n_cl (by omega), hs]
      have uniq : ∀ m', τ.2.2 28 (h + 4 + i) = nI m' → (m' < 3 ∨ g m') → m' = m := fun m' q1 q2 => (n_eq (by have := HS_vb hSt q2; omega) (by omega)).mp (q1.symm.trans m1)
      have nx : ∀ (u' : Nat) (M : Nat → Int32), u' ≤ 30 → u ≤ u' → htN (τ.2.2 28) m ≤ u' → M 1 = nI h → M 2 = nI (1 + (s + szN (τ.2.2 28) m)) → M 100 = nI u' → M 4 = nI n → M 5 = nI i → Tm (fun k => x_measured k 3 M τ) (VO g B h f σ) := fun u' M hu' huu hmu q1 q2 q3 q4 q5 => by
        refine Tm_suc (fun k => by rw [x_measured]) ?_
        refine ih (i + 1) (s + szN (τ.2.2 28) m) u' _ (by omega) q1 q2 q3 q4 (by show M 5 + 1 = _; rw [q5, n_add1]) v1.symm (by omega) hu' (fun i' hi' m' p1 p2 => ?_)
        by_cases e : i' = i
        · subst e; rw [uniq m' p1 p2]; exact hmu
        · have := hht i' (by omega) m' p1 p2
          omega
      refine Tm_suc (fun k => by rw [x_measured]) ?_
      rw [n4, n5, n1, n2, n3, show nI h + 4 = nI (h + 4) from n_add (q := 4) (by omega), n_add (by omega)]
      refine Tm_ite (fun w => absurd ((n_le (by omega) (by omega)).mp w) (by omega)) (fun _ => ?_)
      refine Tm_chk (n_in (by omega) (by omega)) ?_
      rw [n_cl (p := h + 4 + i) (by omega), m1]
      refine Tm_ob (s_size hSt m2 rfl) (fun r3 hr3 => ?_)
      rw [hr3]
      refine Tm_ob (s_height hSt m2 rfl) (fun r4 hr4 => ?_)
      rw [hr4]
      have e12 : nI (1 + s) + nI (szN (τ.2.2 28) m) = nI (1 + (s + szN (τ.2.2 28) m)) := by rw [n_add (by omega), Nat.add_assoc]
      refine Tm_ite (fun w => ?_) (fun w => ?_)
      · have w := (n_le (by omega) (by omega)).mp w
        refine Tm_suc (fun k => by rw [x_measured]) ?_
        exact nx u _ hu (Nat.le_refl _) w n1 e12 n3 n4 n5
      · have w : u < htN (τ.2.2 28) m := by
          by_cases c : htN (τ.2.2 28) m ≤ u
          · exact absurd ((n_le (by omega) (by omega)).mpr c) w
          · omega
        refine Tm_ob (s_height hSt m2 rfl) (fun r6 hr6 => ?_)
        rw [hr6]
        exact nx (htN (τ.2.2 28) m) _ z3 (by omega) (Nat.le_refl _) n1 e12 rfl n4 n5
  refine Tm_suc (fun k => by rw [x_measured]) ?_
  rw [hL, n_add1]
  refine Tm_chk (n_in (by omega) (by omega)) ?_
  rw [n_cl (p := h + 1) (by omega), th1]
  exact l1 n 0 0 0 _ (by omega) hL rfl rfl rfl rfl rfl (by omega) (by decide) (fun i' hi' => absurd hi' (Nat.not_lt_zero i'))
end TUP
end JnS109
section JnS110
/-! Tuples and sets of what lies upon the pile (reference). -/
/-- values upon the pile from a place on -/
def PLv (g : Nat → Prop) (P : Nat → Int32) (f n : Nat) : Prop := ∀ i, i < n → ∃ m, P (f + i) = nI m ∧ (m < 3 ∨ g m)
section TSO
variable {g : Nat → Prop} {l : List Nat} {B h t : Nat} {σ : MS}
theorem PLv_mo {P : Nat → Int32} {f n m : Nat} (h : PLv g P f n) (hm : m ≤ n) : PLv g P f m := fun i hi => h i (by omega)
/-- no room, or an error before: nothing comes of it -/
theorem VO_mk {f n : Nat} {k : Int32} (hS : HS g l B h σ) (hE : ErB σ) (h59 : σ.1 59 = nI f) (hn : h + 4 + n ≤ B + 870000) : VO g B h f σ (0, mMk σ h k n) := by
  have hb := HS_b hS
  refine ⟨g, _, _, ⟨HS_mk hS hn, fun _ z => z, by omega, fun i h1 h2 => ?_⟩, FW_mk, (mMk_s (by decide)).trans h59, ErB_c (mMk_s (by decide)) hE, fun z => by rw [mMk_s (by decide)]; exact z, Vd_0⟩
  rw [mMk_28, upd_other (by omega), upd_other (by omega), upd_other (by omega), upd_other (by omega)]
theorem VO_er2 {f : Nat} {e : Nat} (hS : HS g l B h σ) (hE : ErB σ) (h59 : σ.1 59 = nI f) (he : e ≤ 11) : VO g B h f σ (0, mEr σ (nI e)) := by
  refine ⟨g, l, h, ⟨HS_er hS _, fun _ z => z, Nat.le_refl _, fun _ _ _ => rfl⟩, FW_er, (mEr_s (by decide)).trans h59, ErB_er hE he, fun z => ?_, Vd_0⟩
  rw [mEr_56, if_neg z]; exact z
theorem VO_sc {f : Nat} {x : Int32} {r : Int32 × MS} (hS : HS g l B h σ) (b : VO g B h f (mSc σ 59 x) r) : VO g B h f σ r :=
  VO_tr (τ := mSc σ 59 x) (g1 := g) (l1 := l) (h1 := h) ⟨HS_c hS rfl rfl rfl, fun _ z => z, Nat.le_refl _, fun _ _ _ => rfl⟩ (FW_sc (Or.inr (Or.inr (Or.inl rfl)))) (fun z => z) b
theorem er_le0 {τ : MS} (hE : ErB τ) (w : τ.1 56 ≤ 0) : τ.1 56 = 0 := by
  obtain ⟨e, e1, e2⟩ := hE
  rw [e1] at w ⊢
  rw [(n_le0 (by omega)).mp w]; rfl
theorem s_tupleOf {f n : Nat} (hS : HS g l B h σ) (hE : ErB σ) (h59 : σ.1 59 = nI (f + n)) (hfn : f + n ≤ 185000) (hV : PLv g (σ.2.2 29) f n) {L : Nat → Int32} (hL : L 1 = nI f) : Tm (fun k => x_tupleOf k 0 L σ) (VO g B h f σ) := by
  have hb := HS_b hS
  have hB := hS.2.1
  -- from the room on
  have l2 : ∀ (m : Nat) (N : Nat → Int32), m ≤ n → N 1 = nI f → N 2 = nI m → Tm (fun k => x_tupleOf k 2 N σ) (VO g B h f σ) := by
    intro m N hmn n1 n2
    refine Tm_suc (fun k => by rw [x_tupleOf]) ?_
    rw [n1]
    show Tm (fun k => x_tupleOf k 3 N (mSc σ 59 (nI f))) _
    have hS1 : HS g l B h (mSc σ 59 (nI f)) := HS_c hS rfl rfl rfl
    have hE1 : ErB (mSc σ 59 (nI f)) := ErB_c rfl hE
    refine Tm_mono (Q := VO g B h f (mSc σ 59 (nI f))) ?_ (fun r hr => VO_sc hS hr)
    have p29 : (mSc σ 59 (nI f)).2.2 29 = σ.2.2 29 := rfl
    have p59 : (mSc σ 59 (nI f)).1 59 = nI f := rfl
    generalize mSc σ 59 (nI f) = ρ at hS1 hE1 p29 p59
    refine Tm_suc (fun k => by rw [x_tupleOf]) ?_
    rw [n2]
    refine Tm_ob (s_make hS1 (n := m) (by omega) rfl) (fun r hr => ?_)
    rcases hr with ⟨z, hr⟩ | ⟨z, hr⟩
    · rw [hr]
      refine Tm_ite (fun w => absurd (er_le0 (ErB_er (e := 5) hE1 (by decide)) w) (mEr_e (by decide))) (fun _ => ?_)
      exact Tm_some (VO_er2 hS1 hE1 p59 (e := 5) (by decide))
    · rw [hr]
      refine Tm_ite (fun w => ?_) (fun _ => Tm_some (VO_mk hS1 hE1 p59 z))
      refine Tm_suc (fun k => by rw [x_tupleOf]) ?_
      have l5 : ∀ (j i : Nat) (M : Nat → Int32) (τ : MS), j + i = m → M 1 = nI f → M 2 = nI m → M 3 = nI h → M 4 = nI i → FW f ρ τ → τ.1 59 = nI f → τ.1 56 = ρ.1 56 → τ.1 55 = nI (h + 4 + m) → τ.2.2 29 = ρ.2.2 29 → τ.2.2 28 h = nI 5 → τ.2.2 28 (h + 1) = nI m → (∀ k, k < i → ∃ m, τ.2.2 28 (h + 4 + k) = nI m ∧ (m < 3 ∨ g m)) → (∀ k, B + 4 ≤ k → k < h → τ.2.2 28 k = ρ.2.2 28 k) → Tm (fun k => x_tupleOf k 5 M τ) (VO g B h f ρ) := by
        intro j
        induction j with
        | zero =>
          intro i M τ hi m1 m2 m3 m4 hF t59 t56 t55 t29 th th1 hm hag
          have hi : i = m := by omega
          subst hi
          refine Tm_suc (fun k => by rw [x_tupleOf]) ?_
          rw [m2, m4]
          refine Tm_ite (fun _ => ?_) (fun w => absurd ((n_le (by omega) (by omega)).mpr (by omega)) w)
          refine Tm_suc (fun k => by rw [x_tupleOf]) ?_
          refine Tm_ob (s_measured (k := 5) hS1 hE1 z (Or.inl rfl) hF t59 t56 t55 th th1 hm hag (by exact m3)) (fun r hr => Tm_some hr)
        | succ j ih =>
          intro i M τ hi m1 m2 m3 m4 hF t59 t56 t55 t29 th th1 hm hag
          obtain ⟨x, x1, x2⟩ := hV i (by omega)
          refine Tm_suc (fun k => by rw [x_tupleOf]) ?_
          rw [m2, m4, m1, m3, n_add (by omega), show nI h + 4 = nI (h + 4) from n_add (q := 4) (by omega), n_add (by omega)]
          refine Tm_ite (fun w => absurd ((n_le (by omega) (by omega)).mp w) (by omega)) (fun _ => ?_)
          refine Tm_chk (n_in (by omega) (by omega)) ?_
          refine Tm_chk (n_in (by omega) (by omega)) ?_
          rw [n_cl (p := h + 4 + i) (by omega), n_cl (p := f + i) (by omega), t29, p29, x1]
          show Tm (fun k => x_tupleOf k 6 M (mAr τ 28 (h + 4 + i) (nI x))) _
          refine Tm_suc (fun k => by rw [x_tupleOf]) ?_
          have u : ∀ j, j ≠ h + 4 + i → (mAr τ 28 (h + 4 + i) (nI x)).2.2 28 j = τ.2.2 28 j := fun j hj => by rw [mAr_s, upd_other hj]
          refine ih (i + 1) _ _ (by omega) m1 m2 m3 (by show M 4 + 1 = _; rw [m4, n_add1]) (FW_tr hF (FW_ar (Or.inl rfl))) t59 t56 t55 (by rw [mAr_o (by decide)]; exact t29) (by rw [u _ (by omega)]; exact th) (by rw [u _ (by omega)]; exact th1) (fun k hk => ?_) (fun k h1 h2 => by rw [u _ (by omega)]; exact hag k h1 h2)
          by_cases e : k = i
          · rw [e, mAr_s, upd_same]; exact ⟨x, rfl, x2⟩
          · rw [u _ (by omega)]; exact hm k (by omega)
      refine l5 m 0 _ _ (by omega) n1 n2 rfl rfl FW_mk ((mMk_s (by decide)).trans p59) (mMk_s (by decide)) ?_ (mMk_o (by decide)) ?_ ?_ (fun k hk => absurd hk (Nat.not_lt_zero k)) (fun i h1 h2 => ?_)
      · show nI (h + (4 + m)) = _
        rw [Nat.add_assoc]
      · rw [mMk_28, upd_other (by omega), upd_other (by omega), upd_other (by omega), upd_same]; rfl
      · rw [mMk_28, upd_other (by omega), upd_other (by omega), upd_same]
      · rw [mMk_28, upd_other (by omega), upd_other (by omega), upd_other (by omega), upd_other (by omega)]
  have l1 : ∀ (m : Nat) (N : Nat → Int32), m ≤ n → N 1 = nI f → N 2 = nI m → Tm (fun k => x_tupleOf k 1 N σ) (VO g B h f σ) := by
    intro m
    induction m with
    | zero =>
      intro N hm n1 n2
      refine Tm_suc (fun k => by rw [x_tupleOf]) ?_
      rw [n2]
      exact Tm_ite (fun _ => l2 0 N hm n1 n2) (fun w => absurd ((n_le0 (by decide)).mpr rfl) w)
    | succ m ih =>
      intro N hm n1 n2
      refine Tm_suc (fun k => by rw [x_tupleOf]) ?_
      rw [n2, n1, n_add (by omega), show nI (f + (m + 1)) - 1 = nI (f + m) from n_sub (p := f + (m + 1)) (q := 1) (by omega) (by omega)]
      refine Tm_ite (fun w => absurd ((n_le0 (by omega)).mp w) (by omega)) (fun _ => ?_)
      refine Tm_chk (n_in (by omega) (by omega)) ?_
      refine Tm_ite (fun _ => ?_) (fun _ => l2 (m + 1) N hm n1 n2)
      exact ih _ (by omega) n1 (n_pred m (by omega))
  refine Tm_suc (fun k => by rw [x_tupleOf]) ?_
  rw [h59, hL, n_sub (by omega) (by omega), show f + n - f = n by omega]
  exact l1 n _ (Nat.le_refl _) hL rfl
/-- the frame of sorting -/
def SF (f : Nat) (σ σ' : MS) : Prop := (∀ j, j ≠ 59 → σ'.1 j = σ.1 j) ∧ (∀ j, ¬ (j = 29 ∨ j = 41) → σ'.2.2 j = σ.2.2 j) ∧ (∀ i, i < f → σ'.2.2 29 i = σ.2.2 29 i)
theorem SF_rf {f : Nat} : SF f σ σ := ⟨fun _ _ => rfl, fun _ _ => rfl, fun _ _ => rfl⟩
theorem SF_tr {f : Nat} {τ υ : MS} (h : SF f σ τ) (k : SF f τ υ) : SF f σ υ := ⟨fun j hj => (k.1 j hj).trans (h.1 j hj), fun j hj => (k.2.1 j hj).trans (h.2.1 j hj), fun i hi => (k.2.2 i hi).trans (h.2.2 i hi)⟩
theorem SF_HS {f : Nat} {τ : MS} (hN : SF f σ τ) (hS : HS g l B h σ) : HS g l B h τ := HS_c hS (hN.1 54 (by decide)) (hN.1 55 (by decide)) (hN.2.1 28 (by decide))
theorem SF_41 {f i : Nat} {x : Int32} : SF f σ (mAr σ 41 i x) := ⟨fun _ _ => rfl, fun k hk => mAr_o (by omega), fun _ _ => by rw [mAr_o (by decide)]⟩
theorem SF_29 {f i : Nat} {x : Int32} (hi : f ≤ i) : SF f σ (mAr σ 29 i x) := ⟨fun _ _ => rfl, fun k hk => mAr_o (by omega), fun k hk => by rw [mAr_s, upd_other (by omega)]⟩
theorem s_merge {f n a b c : Nat} (hS : HS g l B h σ) (hV : PLv g (σ.2.2 29) f n) (hn : n ≤ 60100) (hfn : f + n ≤ 185000) (hab : a ≤ b) (hbc : b ≤ c) (hcn : c ≤ n) {L : Nat → Int32} (h1 : L 1 = nI f) (h2 : L 2 = nI a) (h3 : L 3 = nI b) (h4 : L 4 = nI c) : Tm (fun k => x_merge k 0 L σ) (fun r => SF f σ r.2 ∧ r.2.2.2 29 = σ.2.2 29 ∧ r.2.1 59 = σ.1 59 ∧ (∀ i, a ≤ i → i < c → ∃ m, r.2.2.2 41 i = nI m ∧ (m < 3 ∨ g m)) ∧ (∀ i, i < a ∨ c ≤ i → r.2.2.2 41 i = σ.2.2 41 i)) := by
  have l1 : ∀ (q k i j : Nat) (N : Nat → Int32) (τ : MS), q + k = c → a ≤ i → i ≤ b → b ≤ j → j ≤ c → k + b = i + j → N 1 = nI f → N 3 = nI b → N 4 = nI c → N 5 = nI i → N 6 = nI j → N 7 = nI k → SF f σ τ → τ.2.2 29 = σ.2.2 29 → τ.1 59 = σ.1 59 → (∀ i, a ≤ i → i < k → ∃ m, τ.2.2 41 i = nI m ∧ (m < 3 ∨ g m)) → (∀ i, i < a ∨ k ≤ i → τ.2.2 41 i = σ.2.2 41 i) → Tm (fun k => x_merge k 1 N τ) (fun r => SF f σ r.2 ∧ r.2.2.2 29 = σ.2.2 29 ∧ r.2.1 59 = σ.1 59 ∧ (∀ i, a ≤ i → i < c → ∃ m, r.2.2.2 41 i = nI m ∧ (m < 3 ∨ g m)) ∧ (∀ i, i < a ∨ c ≤ i → r.2.2.2 41 i = σ.2.2 41 i)) := by
    intro q
    induction q with
    | zero =>
      intro k i j N τ hk hai hib hbj hjc hs n1 n3 n4 n5 n6 n7 hF t29 t59 hm ho
      have hk : k = c := by omega
      subst hk
      refine Tm_suc (fun k => by rw [x_merge]) ?_
      rw [n4, n7]
      refine Tm_ite (fun _ => ?_) (fun w => absurd ((n_le (by omega) (by omega)).mpr (by omega)) w)
      refine Tm_suc (fun k => by rw [x_merge]) ?_
      exact Tm_some ⟨hF, t29, t59, hm, ho⟩
    | succ q ih =>
      intro k i j N τ hk hai hib hbj hjc hs n1 n3 n4 n5 n6 n7 hF t29 t59 hm ho
      -- one is taken
      have nx : ∀ (i' j' x : Nat) (M : Nat → Int32), (x < 3 ∨ g x) → a ≤ i' → i' ≤ b → b ≤ j' → j' ≤ c → k + 1 + b = i' + j' → M 1 = nI f → M 3 = nI b → M 4 = nI c → M 7 = nI k → M 5 = nI i → M 6 = nI j → M 101 = nI k → M 100 = nI x → ((M 8 = 0 ∧ i' = i ∧ j' = j + 1) ∨ (¬ M 8 = 0 ∧ i' = i + 1 ∧ j' = j)) → Tm (fun k => x_merge k 6 M τ) (fun r => SF f σ r.2 ∧ r.2.2.2 29 = σ.2.2 29 ∧ r.2.1 59 = σ.1 59 ∧ (∀ i, a ≤ i → i < c → ∃ m, r.2.2.2 41 i = nI m ∧ (m < 3 ∨ g m)) ∧ (∀ i, i < a ∨ c ≤ i → r.2.2.2 41 i = σ.2.2 41 i)) := by
        intro i' j' x M hx e1 e2 e3 e4 e5 m1 m3 m4 m7 m5 m6 m101 m100 hcase
        refine Tm_suc (fun k => by rw [x_merge]) ?_
        rw [m101]
        refine Tm_chk (n_in (by omega) (by omega)) ?_
        rw [n_cl (p := k) (by omega), m100]
        show Tm (fun f => x_merge f 7 M (mAr τ 41 k (nI x))) _
        have fin : ∀ M : Nat → Int32, M 1 = nI f → M 3 = nI b → M 4 = nI c → M 5 = nI i' → M 6 = nI j' → M 7 = nI (k + 1) → Tm (fun k' => x_merge k' 1 M (mAr τ 41 k (nI x))) (fun r => SF f σ r.2 ∧ r.2.2.2 29 = σ.2.2 29 ∧ r.2.1 59 = σ.1 59 ∧ (∀ i, a ≤ i → i < c → ∃ m, r.2.2.2 41 i = nI m ∧ (m < 3 ∨ g m)) ∧ (∀ i, i < a ∨ c ≤ i → r.2.2.2 41 i = σ.2.2 41 i)) := fun M p1 p3 p4 p5 p6 p7 => by
          refine ih (k + 1) i' j' M _ (by omega) e1 e2 e3 e4 (by omega) p1 p3 p4 p5 p6 p7 (SF_tr hF SF_41) (by rw [mAr_o (by decide)]; exact t29) t59 (fun w h1 h2 => ?_) (fun w hw => ?_)
          · by_cases e : w = k
            · rw [e, mAr_s, upd_same]; exact ⟨x, rfl, hx⟩
            · rw [mAr_s, upd_other e]; exact hm w h1 (by omega)
          · rw [mAr_s, upd_other (by omega)]; exact ho w (by omega)
        refine Tm_suc (fun k => by rw [x_merge]) ?_
        rcases hcase with ⟨z, ei, ej⟩ | ⟨z, ei, ej⟩
        · refine Tm_ite (fun _ => ?_) (fun w => absurd z w)
          refine Tm_suc (fun k => by rw [x_merge]) ?_
          refine Tm_suc (fun k => by rw [x_merge]) ?_
          refine Tm_ite (c := M 8 = 0) (fun _ => ?_) (fun w => absurd z w)
          refine Tm_suc (fun k => by rw [x_merge]) ?_
          refine Tm_suc (fun k => by rw [x_merge]) ?_
          refine fin _ m1 m3 m4 ?_ ?_ ?_
          · show M 5 + 0 = _
            rw [m5, ei]; exact n_add (q := 0) (by omega)
          · show M 6 + 1 = _
            rw [m6, ej, n_add1]
          · show M 7 + 1 = _
            rw [m7, n_add1]
        · refine Tm_ite (fun w => absurd w z) (fun _ => ?_)
          refine Tm_suc (fun k => by rw [x_merge]) ?_
          refine Tm_ite (c := M 8 = 0) (fun w => absurd w z) (fun _ => ?_)
          refine Tm_suc (fun k => by rw [x_merge]) ?_
          refine fin _ m1 m3 m4 ?_ ?_ ?_
          · show M 5 + 1 = _
            rw [m5, ei, n_add1]
          · show M 6 + 0 = _
            rw [m6, ej]; exact n_add (q := 0) (by omega)
          · show M 7 + 1 = _
            rw [m7, n_add1]
      -- from the left
      have left : i < b → Tm (fun k => x_merge k 2 N τ) (fun r => SF f σ r.2 ∧ r.2.2.2 29 = σ.2.2 29 ∧ r.2.1 59 = σ.1 59 ∧ (∀ i, a ≤ i → i < c → ∃ m, r.2.2.2 41 i = nI m ∧ (m < 3 ∨ g m)) ∧ (∀ i, i < a ∨ c ≤ i → r.2.2.2 41 i = σ.2.2 41 i)) := fun hi => by
        obtain ⟨x, x1, x2⟩ := hV i (by omega)
        refine Tm_suc (fun k => by rw [x_merge]) ?_
        refine Tm_suc (fun k => by rw [x_merge]) ?_
        have e5 : upd N 100 1 1 + upd N 100 1 5 = nI (f + i) := by
          show N 1 + N 5 = _
          rw [n1, n5, n_add (by omega)]
        show Tm (fun k' => if ¬ (N 1 + N 5 < 0 ∨ 185000 ≤ (N 1 + N 5).toNatClampNeg) then x_merge k' 6 (upd (upd (upd (upd N 100 1) 8 1) 100 (τ.2.2 29 (N 1 + N 5).toNatClampNeg)) 101 (N 7)) τ else none) _
        rw [n1, n5, n_add (by omega)]
        refine Tm_chk (n_in (by omega) (by omega)) ?_
        rw [n_cl (p := f + i) (by omega), t29, x1]
        exact nx (i + 1) j x _ x2 (by omega) (by omega) hbj hjc (by omega) n1 n3 n4 n7 n5 n6 n7 rfl (Or.inr ⟨show ¬ (1 : Int32) = 0 by decide, rfl, rfl⟩)
      have right : j < c → Tm (fun k => x_merge k 3 N τ) (fun r => SF f σ r.2 ∧ r.2.2.2 29 = σ.2.2 29 ∧ r.2.1 59 = σ.1 59 ∧ (∀ i, a ≤ i → i < c → ∃ m, r.2.2.2 41 i = nI m ∧ (m < 3 ∨ g m)) ∧ (∀ i, i < a ∨ c ≤ i → r.2.2.2 41 i = σ.2.2 41 i)) := fun hj => by
        obtain ⟨x, x1, x2⟩ := hV j (by omega)
        refine Tm_suc (fun k => by rw [x_merge]) ?_
        refine Tm_suc (fun k => by rw [x_merge]) ?_
        show Tm (fun k' => x_merge k' 5 (upd (upd (upd N 100 0) 8 0) 100 (N 7)) τ) _
        refine Tm_suc (fun k => by rw [x_merge]) ?_
        show Tm (fun k' => if ¬ (N 1 + N 6 < 0 ∨ 185000 ≤ (N 1 + N 6).toNatClampNeg) then x_merge k' 6 (upd (upd (upd (upd (upd N 100 0) 8 0) 100 (N 7)) 100 (τ.2.2 29 (N 1 + N 6).toNatClampNeg)) 101 (N 7)) τ else none) _
        rw [n1, n6, n_add (by omega)]
        refine Tm_chk (n_in (by omega) (by omega)) ?_
        rw [n_cl (p := f + j) (by omega), t29, x1]
        exact nx i (j + 1) x _ x2 hai hib (by omega) (by omega) (by omega) n1 n3 n4 n7 n5 n6 n7 rfl (Or.inl ⟨rfl, rfl, rfl⟩)
      refine Tm_suc (fun k => by rw [x_merge]) ?_
      rw [n4, n7, n6, n3, n5, n1]
      refine Tm_ite (fun w => absurd ((n_le (by omega) (by omega)).mp w) (by omega)) (fun _ => ?_)
      refine Tm_ite (fun w => left (by have := (n_eq (by omega) (by omega)).mp w; omega)) (fun w => ?_)
      have hjc2 : j < c := by
        by_cases e : j = c
        · exact absurd (by rw [e]) w
        · omega
      refine Tm_ite (fun _ => right hjc2) (fun w2 => ?_)
      have hib2 : i < b := by
        by_cases e : b ≤ i
        · exact absurd ((n_le (by omega) (by omega)).mpr e) w2
        · omega
      rw [n_add (by omega), n_add (by omega)]
      refine Tm_chk (n_in (by omega) (by omega)) ?_
      refine Tm_chk (n_in (by omega) (by omega)) ?_
      obtain ⟨x, x1, x2⟩ := hV i (by omega)
      obtain ⟨y, y1, y2⟩ := hV j (by omega)
      rw [n_cl (p := f + i) (by omega), n_cl (p := f + j) (by omega), t29, x1, y1]
      refine Tm_ob (s_compareV (SF_HS hF hS) x2 y2 rfl rfl) (fun r hr => ?_)
      rw [hr]
      exact Tm_ite (fun _ => right hjc2) (fun _ => left hib2)
  refine Tm_suc (fun k => by rw [x_merge]) ?_
  exact l1 (c - a) a a b _ σ (by omega) (Nat.le_refl _) hab (Nat.le_refl _) hbc (by omega) h1 h3 h4 h2 h3 h2 SF_rf rfl rfl (fun i h1 h2 => absurd h1 (by omega)) (fun _ _ => rfl)
end TSO
end JnS110
section JnS111
/-! Sets of what lies upon the pile (reference). -/
section SET1
variable {g : Nat → Prop} {l : List Nat} {B h t : Nat} {σ : MS}
/-- while sorting: the values upon the pile stay values -/
def IDs (g : Nat → Prop) (f n : Nat) (σ τ : MS) : Prop := SF f σ τ ∧ τ.1 59 = σ.1 59 ∧ PLv g (τ.2.2 29) f n
def DQ (g : Nat → Prop) (f n : Nat) (σ : MS) (r : Int32 × MS) : Prop := ∃ m, m ≤ n ∧ SF f σ r.2 ∧ r.2.1 59 = nI (f + m) ∧ PLv g (r.2.2.2 29) f m
theorem IDs_put {f n i x : Nat} {τ : MS} (hI : IDs g f n σ τ) (hx : x < 3 ∨ g x) : IDs g f n σ (mAr τ 29 (f + i) (nI x)) := by
  refine ⟨SF_tr hI.1 (SF_29 (by omega)), hI.2.1, fun q hq => ?_⟩
  by_cases e : q = i
  · rw [e, mAr_s, upd_same]; exact ⟨x, rfl, hx⟩
  · rw [mAr_s, upd_other (by omega)]; exact hI.2.2 q hq
/-- those that are equal are left out -/
theorem s_dis12 {f n : Nat} (hS : HS g l B h σ) (hfn : f + n ≤ 185000) : ∀ (q i j : Nat) (N : Nat → Int32) (τ : MS), q + i = n → j ≤ i → N 1 = nI f → N 2 = nI n → N 3 = nI j → N 4 = nI i → IDs g f n σ τ → Tm (fun k => x_distinct k 12 N τ) (DQ g f n σ) := by
  intro q
  induction q with
  | zero =>
    intro i j N τ hi hj n1 n2 n3 n4 hI
    refine Tm_suc (fun k => by rw [x_distinct]) ?_
    rw [n2, n4]
    refine Tm_ite (fun _ => ?_) (fun w => absurd ((n_le (by omega) (by omega)).mpr (by omega)) w)
    refine Tm_suc (fun k => by rw [x_distinct]) ?_
    rw [n1, n3, n_add (by omega)]
    refine Tm_some ⟨j, by omega, ⟨fun k hk => ?_, hI.1.2.1, hI.1.2.2⟩, rfl, PLv_mo hI.2.2 (by omega)⟩
    show upd τ.1 59 _ k = _
    rw [upd_other hk, hI.1.1 k hk]
  | succ q ih =>
    intro i j N τ hi hj n1 n2 n3 n4 hI
    have b15 : ∀ (j' : Nat) (M : Nat → Int32) (υ : MS), j' ≤ i + 1 → M 1 = nI f → M 2 = nI n → M 3 = nI j' → M 4 = nI i → IDs g f n σ υ → Tm (fun k => x_distinct k 15 M υ) (DQ g f n σ) := fun j' M υ e m1 m2 m3 m4 hI => by
      refine Tm_suc (fun k => by rw [x_distinct]) ?_
      exact ih (i + 1) j' _ _ (by omega) e m1 m2 m3 (by show M 4 + 1 = _; rw [m4, n_add1]) hI
    have b13 : Tm (fun k => x_distinct k 13 N τ) (DQ g f n σ) := by
      obtain ⟨x, x1, x2⟩ := hI.2.2 i (by omega)
      refine Tm_suc (fun k => by rw [x_distinct]) ?_
      rw [n1, n3, n4, n_add (by omega), n_add (by omega)]
      refine Tm_chk (n_in (by omega) (by omega)) ?_
      refine Tm_chk (n_in (by omega) (by omega)) ?_
      rw [n_cl (p := f + i) (by omega), n_cl (p := f + j) (by omega), x1]
      show Tm (fun k => x_distinct k 14 N (mAr τ 29 (f + j) (nI x))) _
      refine Tm_suc (fun k => by rw [x_distinct]) ?_
      exact b15 (j + 1) _ _ (by omega) n1 n2 (by show N 3 + 1 = _; rw [n3, n_add1]) n4 (IDs_put hI x2)
    refine Tm_suc (fun k => by rw [x_distinct]) ?_
    rw [n2, n4, n3, n1]
    refine Tm_ite (fun w => absurd ((n_le (by omega) (by omega)).mp w) (by omega)) (fun _ => ?_)
    refine Tm_ite (fun _ => b13) (fun w => ?_)
    have hj0 : 0 < j := by
      by_cases e : j = 0
      · exact absurd (by rw [e]; rfl) w
      · omega
    obtain ⟨x, x1, x2⟩ := hI.2.2 i (by omega)
    obtain ⟨y, y1, y2⟩ := hI.2.2 (j - 1) (by omega)
    rw [n_add (by omega), n_add (by omega), show nI (f + j) - 1 = nI (f + (j - 1)) from (n_sub (p := f + j) (q := 1) (by omega) (by omega)).trans (by rw [show f + j - 1 = f + (j - 1) by omega])]
    refine Tm_chk (n_in (by omega) (by omega)) ?_
    refine Tm_chk (n_in (by omega) (by omega)) ?_
    rw [n_cl (p := f + i) (by omega), n_cl (p := f + (j - 1)) (by omega), x1, y1]
    refine Tm_ob (s_compareV (SF_HS hI.1 hS) y2 x2 rfl rfl) (fun r hr => ?_)
    rw [hr]
    exact Tm_ite (fun _ => b15 j N τ (by omega) n1 n2 n3 n4 hI) (fun _ => b13)
/-- what was sorted goes back -/
theorem s_dis8 {f n : Nat} (hfn : f + n ≤ 185000) (hn : n ≤ 60100) {w : Nat} {Q : Int32 × MS → Prop} (hk : ∀ (N : Nat → Int32) (τ : MS), N 1 = nI f → N 2 = nI n → N 3 = nI w → IDs g f n σ τ → Tm (fun k => x_distinct k 10 N τ) Q) : ∀ (q i : Nat) (N : Nat → Int32) (τ : MS), q + i = n → N 1 = nI f → N 2 = nI n → N 3 = nI w → N 4 = nI i → IDs g f n σ τ → (∀ p, p < n → ∃ m, τ.2.2 41 p = nI m ∧ (m < 3 ∨ g m)) → Tm (fun k => x_distinct k 8 N τ) Q := by
  intro q
  induction q with
  | zero =>
    intro i N τ hi n1 n2 n3 n4 hI h41
    refine Tm_suc (fun k => by rw [x_distinct]) ?_
    rw [n2, n4]
    exact Tm_ite (fun _ => hk N τ n1 n2 n3 hI) (fun w => absurd ((n_le (by omega) (by omega)).mpr (by omega)) w)
  | succ q ih =>
    intro i N τ hi n1 n2 n3 n4 hI h41
    obtain ⟨x, x1, x2⟩ := h41 i (by omega)
    refine Tm_suc (fun k => by rw [x_distinct]) ?_
    rw [n2, n4, n1, n_add (by omega)]
    refine Tm_ite (fun w => absurd ((n_le (by omega) (by omega)).mp w) (by omega)) (fun _ => ?_)
    refine Tm_chk (n_in (by omega) (by omega)) ?_
    refine Tm_chk (n_in (by omega) (by omega)) ?_
    rw [n_cl (p := f + i) (by omega), n_cl (p := i) (by omega), x1]
    show Tm (fun k => x_distinct k 9 N (mAr τ 29 (f + i) (nI x))) _
    refine Tm_suc (fun k => by rw [x_distinct]) ?_
    exact ih (i + 1) _ _ (by omega) n1 n2 n3 (by show N 4 + 1 = _; rw [n4, n_add1]) (IDs_put hI x2) (by rw [mAr_o (by decide)]; exact h41)
/-- runs of one length become runs of twice that length -/
theorem s_dis2 {f n : Nat} (hS : HS g l B h σ) (hfn : f + n ≤ 185000) (hn : n ≤ 60100) {w : Nat} (hw : 1 ≤ w) (hwn : w < n) {Q : Int32 × MS → Prop} (hk : ∀ (N : Nat → Int32) (τ : MS), N 1 = nI f → N 2 = nI n → N 3 = nI w → IDs g f n σ τ → (∀ p, p < n → ∃ m, τ.2.2 41 p = nI m ∧ (m < 3 ∨ g m)) → Tm (fun k => x_distinct k 7 N τ) Q) : ∀ (q i : Nat) (N : Nat → Int32) (τ : MS), n ≤ q + i → i ≤ n + 2 * w → N 1 = nI f → N 2 = nI n → N 3 = nI w → N 4 = nI i → IDs g f n σ τ → (∀ p, p < i → p < n → ∃ m, τ.2.2 41 p = nI m ∧ (m < 3 ∨ g m)) → Tm (fun k => x_distinct k 2 N τ) Q := by
  have d2 : (2 : Int32) * nI w = nI (2 * w) := by
    rw [Int32.two_mul, n_add (by omega), Nat.two_mul]
  intro q
  induction q with
  | zero =>
    intro i N τ hi hi2 n1 n2 n3 n4 hI h41
    refine Tm_suc (fun k => by rw [x_distinct]) ?_
    rw [n2, n4]
    exact Tm_ite (fun _ => hk N τ n1 n2 n3 hI (fun p hp => h41 p (by omega) hp)) (fun w => absurd ((n_le (by omega) (by omega)).mpr (by omega)) w)
  | succ q ih =>
    intro i N τ hi hi2 n1 n2 n3 n4 hI h41
    have b6 : ∀ (b c : Nat) (M : Nat → Int32), i ≤ b → b ≤ c → c ≤ n → (∀ p, p < i + 2 * w → p < n → p < c) → i < n → M 1 = nI f → M 2 = nI n → M 3 = nI w → M 4 = nI i → M 100 = nI c → M 101 = nI b → M 102 = nI i → M 103 = nI f → Tm (fun k => x_distinct k 6 M τ) Q := by
      intro b c M e1 e2 e3 e4 e5 m1 m2 m3 m4 m100 m101 m102 m103
      refine Tm_suc (fun k => by rw [x_distinct]) ?_
      refine Tm_ob (s_merge (SF_HS hI.1 hS) hI.2.2 hn hfn e1 e2 e3 (by exact m103) (by exact m102) (by exact m101) (by exact m100)) (fun r hr => ?_)
      obtain ⟨r1, r2, r3, r4, r5⟩ := hr
      refine ih (i + 2 * w) _ _ (by omega) (by omega) m1 m2 m3 (by show M 4 + 2 * M 3 = _; rw [m4, m3, d2, n_add (by omega)]) ⟨SF_tr hI.1 r1, r3.trans hI.2.1, by rw [r2]; exact hI.2.2⟩ (fun p hp1 hp2 => ?_)
      have hpc := e4 p hp1 hp2
      by_cases e : p < i
      · rw [r5 p (Or.inl e)]; exact h41 p e hp2
      · exact r4 p (by omega) hpc
    have b4 : ∀ (b : Nat) (M : Nat → Int32), i ≤ b → b ≤ n → b ≤ i + w → i < n → M 1 = nI f → M 2 = nI n → M 3 = nI w → M 4 = nI i → M 100 = nI b → M 101 = nI i → M 102 = nI f → Tm (fun k => x_distinct k 4 M τ) Q := by
      intro b M e1 e2 e3 e4 m1 m2 m3 m4 m100 m101 m102
      refine Tm_suc (fun k => by rw [x_distinct]) ?_
      rw [m2, m4, m3, d2, n_add (by omega)]
      refine Tm_ite (fun z => ?_) (fun z => ?_)
      · refine Tm_suc (fun k => by rw [x_distinct]) ?_
        exact b6 b n _ e1 e2 (Nat.le_refl _) (fun p _ hp => hp) e4 m1 m2 m3 m4 m2 m100 m101 m102
      · have z2 : i + 2 * w ≤ n := by
          by_cases e : n ≤ i + 2 * w
          · exact absurd ((n_le (by omega) (by omega)).mpr e) z
          · omega
        exact b6 b (i + 2 * w) _ e1 (by omega) z2 (fun p hp _ => hp) e4 m1 m2 m3 m4 rfl m100 m101 m102
    refine Tm_suc (fun k => by rw [x_distinct]) ?_
    rw [n2, n4, n3, n1, n_add (by omega)]
    refine Tm_ite (fun z => hk N τ n1 n2 n3 hI (fun p hp => h41 p (by have := (n_le (by omega) (by omega)).mp z; omega) hp)) (fun z => ?_)
    have hin : i < n := by
      by_cases e : n ≤ i
      · exact absurd ((n_le (by omega) (by omega)).mpr e) z
      · omega
    refine Tm_ite (fun z => ?_) (fun z => ?_)
    · have z2 := (n_le (by omega) (by omega)).mp z
      refine Tm_suc (fun k => by rw [x_distinct]) ?_
      exact b4 n _ (by omega) (Nat.le_refl _) (by omega) hin n1 n2 n3 n4 n2 rfl rfl
    · have z2 : i + w ≤ n := by
        by_cases e : n ≤ i + w
        · exact absurd ((n_le (by omega) (by omega)).mpr e) z
        · omega
      exact b4 (i + w) _ (by omega) z2 (Nat.le_refl _) hin n1 n2 n3 n4 rfl rfl rfl
theorem s_dis1 {f n : Nat} (hS : HS g l B h σ) (hfn : f + n ≤ 185000) (hn : n ≤ 60100) : ∀ (q w : Nat) (N : Nat → Int32) (τ : MS), n ≤ q + w → 1 ≤ w → w ≤ 2 * n + 1 → N 1 = nI f → N 2 = nI n → N 3 = nI w → IDs g f n σ τ → Tm (fun k => x_distinct k 1 N τ) (DQ g f n σ) := by
  have b11 : ∀ (N : Nat → Int32) (τ : MS), N 1 = nI f → N 2 = nI n → IDs g f n σ τ → Tm (fun k => x_distinct k 11 N τ) (DQ g f n σ) := by
    intro N τ n1 n2 hI
    refine Tm_suc (fun k => by rw [x_distinct]) ?_
    exact s_dis12 hS hfn n 0 0 _ _ (by omega) (Nat.le_refl _) n1 n2 rfl rfl hI
  intro q
  induction q with
  | zero =>
    intro w N τ hi hw hw2 n1 n2 n3 hI
    refine Tm_suc (fun k => by rw [x_distinct]) ?_
    rw [n2, n3]
    exact Tm_ite (fun _ => b11 N τ n1 n2 hI) (fun w => absurd ((n_le (by omega) (by omega)).mpr (by omega)) w)
  | succ q ih =>
    intro w N τ hi hw hw2 n1 n2 n3 hI
    refine Tm_suc (fun k => by rw [x_distinct]) ?_
    rw [n2, n3]
    refine Tm_ite (fun _ => b11 N τ n1 n2 hI) (fun z => ?_)
    have hwn : w < n := by
      by_cases e : n ≤ w
      · exact absurd ((n_le (by omega) (by omega)).mpr e) z
      · omega
    refine s_dis2 hS hfn hn hw hwn (Q := DQ g f n σ) (fun M υ m1 m2 m3 hJ h41 => ?_) n 0 _ _ (by omega) (by omega) n1 n2 n3 rfl hI (fun p hp => absurd hp (Nat.not_lt_zero p))
    refine Tm_suc (fun k => by rw [x_distinct]) ?_
    refine s_dis8 hfn hn (w := w) (fun O ρ o1 o2 o3 hK => ?_) n 0 _ _ (by omega) m1 m2 m3 rfl hJ h41
    refine Tm_suc (fun k => by rw [x_distinct]) ?_
    exact ih (w + w) _ _ (by omega) (by omega) (by omega) o1 o2 (by show O 3 + O 3 = _; rw [o3, n_add (by omega)]) hK
theorem s_distinct {f n : Nat} (hS : HS g l B h σ) (hV : PLv g (σ.2.2 29) f n) (h59 : σ.1 59 = nI (f + n)) (hfn : f + n ≤ 185000) (hn : n ≤ 60100) {L : Nat → Int32} (h1 : L 1 = nI f) : Tm (fun k => x_distinct k 0 L σ) (DQ g f n σ) := by
  refine Tm_suc (fun k => by rw [x_distinct]) ?_
  rw [h59, h1, n_sub (by omega) (by omega), show f + n - f = n by omega]
  exact s_dis1 hS hfn hn n 1 _ _ (by omega) (Nat.le_refl _) (by omega) h1 rfl rfl ⟨SF_rf, rfl, hV⟩
end SET1
end JnS111
section JnS112
/-! A set out of what lies upon the pile; has (reference). -/
section SET2
variable {g : Nat → Prop} {l : List Nat} {B h t : Nat} {σ : MS}
theorem SF_FW {f : Nat} {τ : MS} (hF : SF f σ τ) : FW f σ τ := ⟨fun j hj => hF.1 j (by omega), fun j hj => hF.2.1 j (by omega), hF.2.2⟩
theorem s_setOf {f n : Nat} (hS : HS g l B h σ) (hE : ErB σ) (h59 : σ.1 59 = nI (f + n)) (hfn : f + n ≤ 185000) (hn : n ≤ 60100) (hV : PLv g (σ.2.2 29) f n) {L : Nat → Int32} (hL : L 1 = nI f) : Tm (fun k => x_setOf k 0 L σ) (VO g B h f σ) := by
  have hb := HS_b hS
  have hB := hS.2.1
  refine Tm_suc (fun k => by rw [x_setOf]) ?_
  refine Tm_ob (s_distinct hS hV h59 hfn hn (by exact hL)) (fun r hr => ?_)
  obtain ⟨m, hmn, hSF, r59, rV⟩ := hr
  rw [r59, hL, n_sub (by omega) (by omega), show f + m - f = m by omega]
  show Tm (fun k => x_setOf k 1 (upd L 2 (nI m)) (mSc r.2 59 (nI f))) _
  have hS1 : HS g l B h (mSc r.2 59 (nI f)) := HS_c (SF_HS hSF hS) rfl rfl rfl
  have hE1 : ErB (mSc r.2 59 (nI f)) := ErB_c (show r.2.1 56 = σ.1 56 from hSF.1 56 (by decide)) hE
  have hF1 : FW f σ (mSc r.2 59 (nI f)) := FW_tr (SF_FW hSF) (FW_sc (Or.inr (Or.inr (Or.inl rfl))))
  have h56 : (mSc r.2 59 (nI f)).1 56 = σ.1 56 := hSF.1 56 (by decide)
  have h28 : (mSc r.2 59 (nI f)).2.2 28 = σ.2.2 28 := hSF.2.1 28 (by decide)
  have p29 : (mSc r.2 59 (nI f)).2.2 29 = r.2.2.2 29 := rfl
  have p59 : (mSc r.2 59 (nI f)).1 59 = nI f := rfl
  generalize mSc r.2 59 (nI f) = ρ at hS1 hE1 hF1 h56 h28 p29 p59
  refine Tm_mono (Q := VO g B h f ρ) ?_ (fun w hw => VO_tr (τ := ρ) (g1 := g) (l1 := l) (h1 := h) ⟨hS1, fun _ z => z, Nat.le_refl _, fun i _ _ => by rw [h28]⟩ hF1 (fun z => by rw [h56]; exact z) hw)
  have n1 : upd L 2 (nI m) 1 = nI f := hL
  have n2 : upd L 2 (nI m) 2 = nI m := rfl
  generalize upd L 2 (nI m) = N at n1 n2
  refine Tm_suc (fun k => by rw [x_setOf]) ?_
  rw [n2]
  refine Tm_ob (s_make hS1 (n := m) (by omega) rfl) (fun r hr => ?_)
  rcases hr with ⟨z, hr⟩ | ⟨z, hr⟩
  · rw [hr]
    refine Tm_ite (fun w => absurd (er_le0 (ErB_er (e := 5) hE1 (by decide)) w) (mEr_e (by decide))) (fun _ => ?_)
    exact Tm_some (VO_er2 hS1 hE1 p59 (e := 5) (by decide))
  · rw [hr]
    refine Tm_ite (fun w => ?_) (fun _ => Tm_some (VO_mk hS1 hE1 p59 z))
    refine Tm_suc (fun k => by rw [x_setOf]) ?_
    have l5 : ∀ (j i : Nat) (M : Nat → Int32) (τ : MS), j + i = m → M 1 = nI f → M 2 = nI m → M 3 = nI h → M 4 = nI i → FW f ρ τ → τ.1 59 = nI f → τ.1 56 = ρ.1 56 → τ.1 55 = nI (h + 4 + m) → τ.2.2 29 = ρ.2.2 29 → τ.2.2 28 h = nI 6 → τ.2.2 28 (h + 1) = nI m → (∀ k, k < i → ∃ m, τ.2.2 28 (h + 4 + k) = nI m ∧ (m < 3 ∨ g m)) → (∀ k, B + 4 ≤ k → k < h → τ.2.2 28 k = ρ.2.2 28 k) → Tm (fun k => x_setOf k 3 M τ) (VO g B h f ρ) := by
      intro j
      induction j with
      | zero =>
        intro i M τ hi m1 m2 m3 m4 hF t59 t56 t55 t29 th th1 hm hag
        have hi : i = m := by omega
        subst hi
        refine Tm_suc (fun k => by rw [x_setOf]) ?_
        rw [m2, m4]
        refine Tm_ite (fun _ => ?_) (fun w => absurd ((n_le (by omega) (by omega)).mpr (by omega)) w)
        refine Tm_suc (fun k => by rw [x_setOf]) ?_
        refine Tm_ob (s_measured (k := 6) hS1 hE1 z (Or.inr rfl) hF t59 t56 t55 th th1 hm hag (by exact m3)) (fun r hr => Tm_some hr)
      | succ j ih =>
        intro i M τ hi m1 m2 m3 m4 hF t59 t56 t55 t29 th th1 hm hag
        obtain ⟨x, x1, x2⟩ := rV i (by omega)
        refine Tm_suc (fun k => by rw [x_setOf]) ?_
        rw [m2, m4, m1, m3, n_add (by omega), show nI h + 4 = nI (h + 4) from n_add (q := 4) (by omega), n_add (by omega)]
        refine Tm_ite (fun w => absurd ((n_le (by omega) (by omega)).mp w) (by omega)) (fun _ => ?_)
        refine Tm_chk (n_in (by omega) (by omega)) ?_
        refine Tm_chk (n_in (by omega) (by omega)) ?_
        rw [n_cl (p := h + 4 + i) (by omega), n_cl (p := f + i) (by omega), t29, p29, x1]
        show Tm (fun k => x_setOf k 4 M (mAr τ 28 (h + 4 + i) (nI x))) _
        refine Tm_suc (fun k => by rw [x_setOf]) ?_
        have u : ∀ j, j ≠ h + 4 + i → (mAr τ 28 (h + 4 + i) (nI x)).2.2 28 j = τ.2.2 28 j := fun j hj => by rw [mAr_s, upd_other hj]
        refine ih (i + 1) _ _ (by omega) m1 m2 m3 (by show M 4 + 1 = _; rw [m4, n_add1]) (FW_tr hF (FW_ar (Or.inl rfl))) t59 t56 t55 (by rw [mAr_o (by decide)]; exact t29) (by rw [u _ (by omega)]; exact th) (by rw [u _ (by omega)]; exact th1) (fun k hk => ?_) (fun k h1 h2 => by rw [u _ (by omega)]; exact hag k h1 h2)
        by_cases e : k = i
        · rw [e, mAr_s, upd_same]; exact ⟨x, rfl, x2⟩
        · rw [u _ (by omega)]; exact hm k (by omega)
    refine l5 m 0 _ _ (by omega) n1 n2 rfl rfl FW_mk ((mMk_s (by decide)).trans p59) (mMk_s (by decide)) ?_ (mMk_o (by decide)) ?_ ?_ (fun k hk => absurd hk (Nat.not_lt_zero k)) (fun i h1 h2 => ?_)
    · show nI (h + (4 + m)) = _
      rw [Nat.add_assoc]
    · rw [mMk_28, upd_other (by omega), upd_other (by omega), upd_other (by omega), upd_same]; rfl
    · rw [mMk_28, upd_other (by omega), upd_other (by omega), upd_same]
    · rw [mMk_28, upd_other (by omega), upd_other (by omega), upd_other (by omega), upd_other (by omega)]
end SET2
end JnS112
section JnS113
/-! Is it a member (reference). -/
section HAS
variable {g : Nat → Prop} {l : List Nat} {B h t : Nat} {σ : MS}
theorem s_wrongKind (L : Nat → Int32) : Tm (fun k => x_wrongKind k 0 L σ) (fun r => r = (0, mEr σ (nI 1))) := by
  refine Tm_suc (fun k => by rw [x_wrongKind]) ?_
  refine Tm_ob (s_fail _ σ) (fun r hr => ?_)
  rw [hr]
  exact Tm_some rfl
theorem s_truth (L : Nat → Int32) : Tm (fun k => x_truth k 0 L σ) (fun r => r.2 = σ ∧ (r.1 = 1 ∨ r.1 = 2)) := by
  refine Tm_suc (fun k => by rw [x_truth]) ?_
  refine Tm_ite (fun _ => ?_) (fun _ => ?_)
  · refine Tm_suc (fun k => by rw [x_truth]) ?_
    refine Tm_suc (fun k => by rw [x_truth]) ?_
    exact Tm_some ⟨rfl, Or.inl rfl⟩
  · refine Tm_suc (fun k => by rw [x_truth]) ?_
    exact Tm_some ⟨rfl, Or.inr rfl⟩
theorem kdN_ge (hS : HS g l B h σ) {v : Nat} (hv : v < 3 ∨ g v) (hk : 2 ≤ kdN (σ.2.2 28) v) : g v := by
  rcases hv with hv | hv
  · unfold kdN at hk
    split at hk
    · omega
    · omega
  · exact hv
/-- an object with parts -/
theorem ob_at (hS : HS g l B h σ) {v : Nat} (hv : g v) : ∃ n, σ.2.2 28 (v + 1) = nI n ∧ n ≤ 3996 ∧ B + 4 ≤ v ∧ v + 4 + n ≤ h ∧ σ.2.2 28 v = nI (kdN (σ.2.2 28) v) ∧ (2 ≤ kdN (σ.2.2 28) v ∧ kdN (σ.2.2 28) v ≤ 6) ∧ (5 ≤ kdN (σ.2.2 28) v → ∀ i, i < n → ∃ m, σ.2.2 28 (v + 4 + i) = nI m ∧ (m < 3 ∨ g m)) := by
  obtain ⟨k, n, s, u, ⟨g1, g2, g3, g4, g5, g6, g7, g8, g9, g10, g11, g12⟩, hv1, hv2⟩ := HS_at hS hv
  have hb := HS_b hS
  have e : kdN (σ.2.2 28) v = k := by
    unfold kdN
    rw [if_neg (by omega), if_neg (by omega), g1, n_cl (by omega)]
  refine ⟨n, g2, g8, hv1, hv2, by rw [e]; exact g1, by rw [e]; exact g5, fun z i hi => ?_⟩
  obtain ⟨m, m1, m2, _⟩ := (g12 (by omega)).2 i hi
  exact ⟨m, m1, m2⟩
theorem s_has (hS : HS g l B h σ) {v x : Nat} (hv : g v) (hk : 5 ≤ kdN (σ.2.2 28) v) (hx : x < 3 ∨ g x) {L : Nat → Int32} (h1 : L 1 = nI v) (h2 : L 2 = nI x) : Tm (fun k => x_has k 0 L σ) (fun r => r.2 = σ ∧ (r.1 = 0 ∨ r.1 = 1)) := by
  have hb := HS_b hS
  have hB := hS.2.1
  obtain ⟨n, v1, v2, v3, v4, v5, v6, v7⟩ := ob_at hS hv
  have v7 := v7 hk
  have b1 : ∀ (q a b : Nat) (N : Nat → Int32), b ≤ q + a → a ≤ b → b ≤ n → N 1 = nI v → N 2 = nI x → N 3 = nI a → N 4 = nI b - 1 → Tm (fun k => x_has k 1 N σ) (fun r => r.2 = σ ∧ (r.1 = 0 ∨ r.1 = 1)) := by
    have e7 : ∀ N : Nat → Int32, Tm (fun k => x_has k 7 N σ) (fun r => r.2 = σ ∧ (r.1 = 0 ∨ r.1 = 1)) := fun N => by
      refine Tm_suc (fun k => by rw [x_has]) ?_
      exact Tm_some ⟨rfl, Or.inl rfl⟩
    have em : ∀ b : Nat, b ≤ 3996 → 0 < b → nI b - 1 = nI (b - 1) := fun b hb hb0 => n_sub (p := b) (q := 1) (by omega) (by omega)
    intro q
    induction q with
    | zero =>
      intro a b N hq hab hbn n1 n2 n3 n4
      have : a = b := by omega
      subst this
      refine Tm_suc (fun k => by rw [x_has]) ?_
      rw [n3, n4]
      refine Tm_ite (fun _ => e7 N) (fun w => absurd ?_ w)
      by_cases ha : a = 0
      · rw [ha]; decide
      · rw [em a (by omega) (by omega)]; exact (n_lt (by omega) (by omega)).mpr (by omega)
    | succ q ih =>
      intro a b N hq hab hbn n1 n2 n3 n4
      refine Tm_suc (fun k => by rw [x_has]) ?_
      rw [n3, n4, n1]
      refine Tm_ite (fun _ => e7 N) (fun w => ?_)
      have hlt : a < b := by
        by_cases e : a = b
        · refine absurd ?_ w
          subst e
          by_cases ha : a = 0
          · rw [ha]; decide
          · rw [em a (by omega) (by omega)]; exact (n_lt (by omega) (by omega)).mpr (by omega)
        · omega
      refine Tm_chk0 (by decide) ?_
      have hmid : ∃ c, (a + (b - 1)) / 2 = c ∧ a ≤ c ∧ c < b := ⟨_, rfl, by omega, by omega⟩
      obtain ⟨c, c1, c2, c3⟩ := hmid
      have ec : (nI a + (nI b - 1)) / 2 = nI c := by
        rw [em b (by omega) (by omega), n_add (by omega), show nI (a + (b - 1)) / 2 = nI ((a + (b - 1)) / 2) from n_div (q := 2) (by omega) (by decide) (by decide), c1]
      rw [ec, show nI v + 4 = nI (v + 4) from n_add (q := 4) (by omega), n_add (by omega)]
      refine Tm_chk (n_in (by omega) (by omega)) ?_
      obtain ⟨y, y1, y2⟩ := v7 c (by omega)
      rw [n_cl (p := v + 4 + c) (by omega), y1]
      refine Tm_ob (s_compareV hS y2 hx rfl (by exact n2)) (fun r hr => ?_)
      rw [hr]
      refine Tm_ite (fun _ => Tm_some ⟨rfl, Or.inr rfl⟩) (fun _ => ?_)
      refine Tm_suc (fun k => by rw [x_has]) ?_
      show Tm (fun k => if 0 ≤ r.1 then x_has k 3 (upd (upd N 5 (nI c)) 6 r.1) σ else x_has k 4 (upd (upd (upd N 5 (nI c)) 6 r.1) 100 (nI c + 1)) σ) _
      refine Tm_ite (fun z => ?_) (fun z => ?_)
      · refine Tm_suc (fun k => by rw [x_has]) ?_
        refine Tm_suc (fun k => by rw [x_has]) ?_
        refine Tm_ite (fun _ => ?_) (fun w => absurd (show 0 ≤ r.1 from z) w)
        refine Tm_suc (fun k => by rw [x_has]) ?_
        refine Tm_suc (fun k => by rw [x_has]) ?_
        exact ih a c _ (by omega) c2 (by omega) n1 n2 n3 rfl
      · refine Tm_suc (fun k => by rw [x_has]) ?_
        refine Tm_ite (fun w => absurd (show 0 ≤ r.1 from w) z) (fun _ => ?_)
        refine Tm_suc (fun k => by rw [x_has]) ?_
        exact ih (c + 1) b _ (by omega) (by omega) hbn n1 n2 (n_add1 c) n4
  refine Tm_suc (fun k => by rw [x_has]) ?_
  rw [h1, show nI v + 1 = nI (v + 1) from n_add1 v]
  refine Tm_chk (n_in (by omega) (by omega)) ?_
  rw [n_cl (p := v + 1) (by omega), v1]
  exact b1 n 0 n _ (by omega) (Nat.zero_le _) (Nat.le_refl _) h1 h2 rfl rfl
theorem s_isSubset (hS : HS g l B h σ) {v x : Nat} (hv : g v) (hk : 5 ≤ kdN (σ.2.2 28) v) (hx : g x) (hkx : 5 ≤ kdN (σ.2.2 28) x) {L : Nat → Int32} (h1 : L 1 = nI v) (h2 : L 2 = nI x) : Tm (fun k => x_isSubset k 0 L σ) (fun r => r.2 = σ ∧ (r.1 = 0 ∨ r.1 = 1)) := by
  have hb := HS_b hS
  have hB := hS.2.1
  obtain ⟨n, v1, v2, v3, v4, v5, v6, v7⟩ := ob_at hS hv
  have v7 := v7 hk
  have e2 : ∀ N : Nat → Int32, (N 3 = 0 ∨ N 3 = 1) → Tm (fun k => x_isSubset k 2 N σ) (fun r => r.2 = σ ∧ (r.1 = 0 ∨ r.1 = 1)) := fun N hN => by
    refine Tm_suc (fun k => by rw [x_isSubset]) ?_
    refine Tm_ite (fun _ => ?_) (fun w => absurd hN w)
    exact Tm_some ⟨rfl, hN⟩
  have b1 : ∀ (q i : Nat) (N : Nat → Int32), q + i = n → N 1 = nI v → N 2 = nI x → (N 3 = 0 ∨ N 3 = 1) → N 4 = nI i → Tm (fun k => x_isSubset k 1 N σ) (fun r => r.2 = σ ∧ (r.1 = 0 ∨ r.1 = 1)) := by
    intro q
    induction q with
    | zero =>
      intro i N hi n1 n2 n3 n4
      refine Tm_suc (fun k => by rw [x_isSubset]) ?_
      rw [n1, n4, show nI v + 1 = nI (v + 1) from n_add1 v]
      refine Tm_chk (n_in (by omega) (by omega)) ?_
      rw [n_cl (p := v + 1) (by omega), v1]
      exact Tm_ite (fun _ => e2 N n3) (fun w => absurd ((n_le (by omega) (by omega)).mpr (by omega)) w)
    | succ q ih =>
      intro i N hi n1 n2 n3 n4
      refine Tm_suc (fun k => by rw [x_isSubset]) ?_
      rw [n1, n4, show nI v + 1 = nI (v + 1) from n_add1 v, show nI v + 4 = nI (v + 4) from n_add (q := 4) (by omega), n_add (by omega)]
      refine Tm_chk (n_in (by omega) (by omega)) ?_
      rw [n_cl (p := v + 1) (by omega), v1]
      refine Tm_ite (fun _ => e2 N n3) (fun _ => ?_)
      refine Tm_ite (fun _ => e2 N n3) (fun _ => ?_)
      refine Tm_chk (n_in (by omega) (by omega)) ?_
      obtain ⟨y, y1, y2⟩ := v7 i (by omega)
      rw [n_cl (p := v + 4 + i) (by omega), y1]
      refine Tm_ob (s_has hS hx hkx y2 (by exact n2) rfl) (fun r hr => ?_)
      rw [hr.1]
      exact ih (i + 1) _ (by omega) n1 n2 hr.2 (n_add1 i)
  refine Tm_suc (fun k => by rw [x_isSubset]) ?_
  exact b1 n 0 _ (by omega) h1 h2 (Or.inr rfl) rfl
end HAS
end JnS113
section JnS114
/-! Sift, joined, plus (reference). -/
section PLU
variable {g : Nat → Prop} {l : List Nat} {B h t : Nat} {σ : MS}
theorem n_in2 {p n : Nat} (hp : p < 2147483648) (h : p < n) : ¬ (nI p < 0 ∨ n ≤ p) := by
  rintro (z | z)
  · have := (n_lt (p := p) (q := 0) hp (by decide)).mp z
    omega
  · omega
/-- values are being pushed: n of them above f -/
def PuS (g : Nat → Prop) (f n : Nat) (σ τ : MS) : Prop := (∀ j, j ≠ 59 → τ.1 j = σ.1 j) ∧ (∀ j, j ≠ 29 → τ.2.2 j = σ.2.2 j) ∧ (∀ i, i < f → τ.2.2 29 i = σ.2.2 29 i) ∧ τ.1 59 = nI (f + n) ∧ PLv g (τ.2.2 29) f n
theorem PuS_0 {f : Nat} (h59 : σ.1 59 = nI f) : PuS g f 0 σ σ := ⟨fun _ _ => rfl, fun _ _ => rfl, fun _ _ => rfl, h59, fun i hi => absurd hi (Nat.not_lt_zero i)⟩
theorem PuS_HS {f n : Nat} {τ : MS} (hP : PuS g f n σ τ) (hS : HS g l B h σ) : HS g l B h τ := HS_c hS (hP.1 54 (by decide)) (hP.1 55 (by decide)) (hP.2.1 28 (by decide))
theorem PuS_FW {f n : Nat} {τ : MS} (hP : PuS g f n σ τ) : FW f σ τ := ⟨fun j hj => hP.1 j (by omega), fun j hj => hP.2.1 j (by omega), hP.2.2.1⟩
theorem PuS_pu {f n x : Nat} {τ : MS} (hP : PuS g f n σ τ) (hx : x < 3 ∨ g x) : PuS g f (n + 1) σ (mPu τ (f + n) (nI x)) := by
  refine ⟨fun j hj => by rw [mPu_s hj]; exact hP.1 j hj, fun j hj => by rw [mPu_o hj]; exact hP.2.1 j hj, fun i hi => by rw [mPu_29, upd_other (by omega)]; exact hP.2.2.1 i hi, mPu_59, fun i hi => ?_⟩
  rw [mPu_29]
  by_cases e : i = n
  · rw [e, upd_same]; exact ⟨x, rfl, hx⟩
  · rw [upd_other (by omega)]; exact hP.2.2.2.2 i (by omega)
theorem PuS_VO {f n : Nat} {τ : MS} {r : Int32 × MS} (hP : PuS g f n σ τ) (hS : HS g l B h σ) (b : VO g B h f τ r) : VO g B h f σ r :=
  VO_tr (τ := τ) (g1 := g) (l1 := l) (h1 := h) ⟨PuS_HS hP hS, fun _ z => z, Nat.le_refl _, fun i _ _ => by rw [hP.2.1 28 (by decide)]⟩ (PuS_FW hP) (fun z => by rw [hP.1 56 (by decide)]; exact z) b
theorem PuS_set {f n : Nat} {τ : MS} (hP : PuS g f n σ τ) (hS : HS g l B h σ) (hE : ErB σ) (hfn : f + n ≤ 185000) (hn : n ≤ 60100) {L : Nat → Int32} (hL : L 1 = nI f) : Tm (fun k => x_setOf k 0 L τ) (VO g B h f σ) :=
  Tm_mono (s_setOf (PuS_HS hP hS) (ErB_c (hP.1 56 (by decide)) hE) hP.2.2.2.1 hfn hn hP.2.2.2.2 hL) (fun r hr => PuS_VO hP hS hr)
theorem PuS_tup {f n : Nat} {τ : MS} (hP : PuS g f n σ τ) (hS : HS g l B h σ) (hE : ErB σ) (hfn : f + n ≤ 185000) {L : Nat → Int32} (hL : L 1 = nI f) : Tm (fun k => x_tupleOf k 0 L τ) (VO g B h f σ) :=
  Tm_mono (s_tupleOf (PuS_HS hP hS) (ErB_c (hP.1 56 (by decide)) hE) hP.2.2.2.1 hfn hP.2.2.2.2 hL) (fun r hr => PuS_VO hP hS hr)
theorem PuS_push {f n x : Nat} {τ : MS} (hP : PuS g f n σ τ) (hfn : f + n < 185000) (hx : x < 3 ∨ g x) {L : Nat → Int32} (hL : L 1 = nI x) : Tm (fun k => x_push k 0 L τ) (fun r => PuS g f (n + 1) σ r.2) :=
  Tm_mono (s_push hP.2.2.2.1 hfn L) (fun r hr => by rw [hr, hL]; exact PuS_pu hP hx)
theorem s_sift (hP : VP g l B h t σ) {v x : Nat} (hv : g v) (hk : 5 ≤ kdN (σ.2.2 28) v) (hx : g x) (hkx : 5 ≤ kdN (σ.2.2 28) x) {L : Nat → Int32} (h1 : L 1 = nI v) (h2 : L 2 = nI x) : Tm (fun k => x_sift k 0 L σ) (VO g B h t σ) := by
  have hS := hP.1
  have hb := HS_b hS
  have hB := hS.2.1
  have ht := hP.2.2.1
  obtain ⟨n, v1, v2, v3, v4, v5, v6, v7⟩ := ob_at hS hv
  have v7 := v7 hk
  have b3 : ∀ (p : Nat) (N : Nat → Int32) (τ : MS), p ≤ n → N 4 = nI t → PuS g t p σ τ → Tm (fun k => x_sift k 3 N τ) (VO g B h t σ) := fun p N τ hp n4 hU => by
    refine Tm_suc (fun k => by rw [x_sift]) ?_
    exact Tm_ob (PuS_set hU hS hP.2.2.2 (by omega) (by omega) (by exact n4)) (fun r hr => Tm_some hr)
  have b1 : ∀ (q i p : Nat) (N : Nat → Int32) (τ : MS), q + i = n → p ≤ i → N 1 = nI v → N 2 = nI x → N 4 = nI t → N 5 = nI i → PuS g t p σ τ → Tm (fun k => x_sift k 1 N τ) (VO g B h t σ) := by
    intro q
    induction q with
    | zero =>
      intro i p N τ hi hp n1 n2 n4 n5 hU
      refine Tm_suc (fun k => by rw [x_sift]) ?_
      rw [n1, n5, show nI v + 1 = nI (v + 1) from n_add1 v]
      refine Tm_chk (n_in (by omega) (by omega)) ?_
      rw [n_cl (p := v + 1) (by omega), hU.2.1 28 (by decide), v1]
      exact Tm_ite (fun _ => b3 p N τ (by omega) n4 hU) (fun w => absurd ((n_le (by omega) (by omega)).mpr (by omega)) w)
    | succ q ih =>
      intro i p N τ hi hp n1 n2 n4 n5 hU
      have b2 : ∀ (p' : Nat) (τ' : MS), p' ≤ i + 1 → PuS g t p' σ τ' → Tm (fun k => x_sift k 2 N τ') (VO g B h t σ) := fun p' τ' hp' hU' => by
        refine Tm_suc (fun k => by rw [x_sift]) ?_
        exact ih (i + 1) p' _ _ (by omega) hp' n1 n2 n4 (by show N 5 + 1 = _; rw [n5, n_add1]) hU'
      refine Tm_suc (fun k => by rw [x_sift]) ?_
      rw [n1, n5, show nI v + 1 = nI (v + 1) from n_add1 v, show nI v + 4 = nI (v + 4) from n_add (q := 4) (by omega), n_add (by omega)]
      refine Tm_chk (n_in (by omega) (by omega)) ?_
      rw [n_cl (p := v + 1) (by omega), hU.2.1 28 (by decide), v1]
      refine Tm_ite (fun w => absurd ((n_le (by omega) (by omega)).mp w) (by omega)) (fun _ => ?_)
      refine Tm_chk (n_in (by omega) (by omega)) ?_
      obtain ⟨y, y1, y2⟩ := v7 i (by omega)
      rw [n_cl (p := v + 4 + i) (by omega), y1]
      refine Tm_ob (s_has (PuS_HS hU hS) hx (by rw [hU.2.1 28 (by decide)]; exact hkx) y2 (by exact n2) rfl) (fun r hr => ?_)
      rw [hr.1, hU.2.1 28 (by decide), y1]
      refine Tm_ite (fun _ => ?_) (fun _ => b2 p τ (by omega) hU)
      refine Tm_chk (n_in2 (by omega) (by omega)) ?_
      exact Tm_ob (PuS_push hU (by omega) y2 rfl) (fun r hr => b2 (p + 1) _ (by omega) hr)
  refine Tm_suc (fun k => by rw [x_sift]) ?_
  rw [hP.2.1]
  exact b1 n 0 0 _ _ (by omega) (Nat.le_refl _) h1 h2 rfl rfl (PuS_0 hP.2.1)
end PLU
end JnS114
section JnS115
/-! Joined, plus (reference). -/
section PLU
variable {g : Nat → Prop} {l : List Nat} {B h t : Nat} {σ : MS}
/-- the frame of bytes (array 51) -/
def BF (σ τ : MS) : Prop := (∀ j, τ.1 j = σ.1 j) ∧ ∀ j, j ≠ 51 → τ.2.2 j = σ.2.2 j
theorem BF_rf : BF σ σ := ⟨fun _ => rfl, fun _ _ => rfl⟩
theorem BF_51 {τ : MS} {i : Nat} {x : Int32} (hN : BF σ τ) : BF σ (mAr τ 51 i x) := ⟨hN.1, fun j hj => (mAr_o hj).trans (hN.2 j hj)⟩
theorem BF_VP {τ : MS} (hN : BF σ τ) (hP : VP g l B h t σ) : VP g l B h t τ := ⟨HS_c hP.1 (hN.1 54) (hN.1 55) (hN.2 28 (by decide)), (hN.1 59).trans hP.2.1, hP.2.2.1, ErB_c (hN.1 56) hP.2.2.2⟩
theorem BF_VO {τ : MS} {r : Int32 × MS} (hN : BF σ τ) (hP : VP g l B h t σ) (b : VO g B h t τ r) : VO g B h t σ r :=
  VO_tr (τ := τ) (g1 := g) (l1 := l) (h1 := h) ⟨(BF_VP hN hP).1, fun _ z => z, Nat.le_refl _, fun i _ _ => by rw [hN.2 28 (by decide)]⟩ ⟨fun j _ => hN.1 j, fun j hj => hN.2 j (by omega), fun i _ => by rw [hN.2 29 (by decide)]⟩ (fun z => by rw [hN.1 56]; exact z) b
theorem s_joined (hP : VP g l B h t σ) {v x : Nat} (hv : g v) (hx : g x) {L : Nat → Int32} (h1 : L 1 = nI v) (h2 : L 2 = nI x) : Tm (fun k => x_joined k 0 L σ) (VO g B h t σ) := by
  have hS := hP.1
  have hb := HS_b hS
  have hB := hS.2.1
  obtain ⟨n, v1, v2, v3, v4, -, -, -⟩ := ob_at hS hv
  obtain ⟨m, x1, x2, x3, x4, -, -, -⟩ := ob_at hS hx
  have b6 : ∀ (N : Nat → Int32) (τ : MS), N 3 = nI n → N 4 = nI m → BF σ τ → Tm (fun k => x_joined k 6 N τ) (VO g B h t σ) := fun N τ n3 n4 hF => by
    refine Tm_suc (fun k => by rw [x_joined]) ?_
    rw [n3, n4, n_add (by omega)]
    exact Tm_ob (s_stringOf51 (BF_VP hF hP) (f := 0) (n := n + m) (by omega) (fun _ => by omega) rfl rfl) (fun r hr => Tm_some (BF_VO hF hP hr))
  have b4 : ∀ (q i : Nat) (N : Nat → Int32) (τ : MS), q + i = m → N 2 = nI x → N 3 = nI n → N 4 = nI m → N 5 = nI i → BF σ τ → Tm (fun k => x_joined k 4 N τ) (VO g B h t σ) := by
    intro q
    induction q with
    | zero =>
      intro i N τ hi n2 n3 n4 n5 hF
      refine Tm_suc (fun k => by rw [x_joined]) ?_
      rw [n4, n5]
      exact Tm_ite (fun _ => b6 N τ n3 n4 hF) (fun w => absurd ((n_le (by omega) (by omega)).mpr (by omega)) w)
    | succ q ih =>
      intro i N τ hi n2 n3 n4 n5 hF
      refine Tm_suc (fun k => by rw [x_joined]) ?_
      rw [n4, n5, n2, n3, show nI x + 4 = nI (x + 4) from n_add (q := 4) (by omega), n_add (by omega), n_add (by omega)]
      refine Tm_ite (fun w => absurd ((n_le (by omega) (by omega)).mp w) (by omega)) (fun _ => ?_)
      refine Tm_chk (n_in (by omega) (by omega)) ?_
      refine Tm_chk (n_in (by omega) (by omega)) ?_
      rw [n_cl (p := n + i) (by omega)]
      show Tm (fun k => x_joined k 5 N (mAr τ 51 (n + i) (τ.2.2 28 (nI (x + 4 + i)).toNatClampNeg))) _
      refine Tm_suc (fun k => by rw [x_joined]) ?_
      exact ih (i + 1) _ _ (by omega) n2 n3 n4 (by show N 5 + 1 = _; rw [n5, n_add1]) (BF_51 hF)
  have b1 : ∀ (q i : Nat) (N : Nat → Int32) (τ : MS), q + i = n → N 1 = nI v → N 2 = nI x → N 3 = nI n → N 4 = nI m → N 5 = nI i → BF σ τ → Tm (fun k => x_joined k 1 N τ) (VO g B h t σ) := by
    intro q
    induction q with
    | zero =>
      intro i N τ hi n1 n2 n3 n4 n5 hF
      refine Tm_suc (fun k => by rw [x_joined]) ?_
      rw [n3, n5]
      refine Tm_ite (fun _ => ?_) (fun w => absurd ((n_le (by omega) (by omega)).mpr (by omega)) w)
      refine Tm_suc (fun k => by rw [x_joined]) ?_
      exact b4 m 0 _ _ (by omega) n2 n3 n4 rfl hF
    | succ q ih =>
      intro i N τ hi n1 n2 n3 n4 n5 hF
      refine Tm_suc (fun k => by rw [x_joined]) ?_
      rw [n3, n5, n1, show nI v + 4 = nI (v + 4) from n_add (q := 4) (by omega), n_add (by omega)]
      refine Tm_ite (fun w => absurd ((n_le (by omega) (by omega)).mp w) (by omega)) (fun _ => ?_)
      refine Tm_chk (n_in (by omega) (by omega)) ?_
      refine Tm_chk (n_in (by omega) (by omega)) ?_
      rw [n_cl (p := i) (by omega)]
      show Tm (fun k => x_joined k 2 N (mAr τ 51 i (τ.2.2 28 (nI (v + 4 + i)).toNatClampNeg))) _
      refine Tm_suc (fun k => by rw [x_joined]) ?_
      exact ih (i + 1) _ _ (by omega) n1 n2 n3 n4 (by show N 5 + 1 = _; rw [n5, n_add1]) (BF_51 hF)
  refine Tm_suc (fun k => by rw [x_joined]) ?_
  rw [h1, h2, show nI v + 1 = nI (v + 1) from n_add1 v, show nI x + 1 = nI (x + 1) from n_add1 x]
  refine Tm_chk (n_in (by omega) (by omega)) ?_
  refine Tm_chk (n_in (by omega) (by omega)) ?_
  rw [n_cl (p := v + 1) (by omega), n_cl (p := x + 1) (by omega), v1, x1]
  exact b1 n 0 _ _ (by omega) h1 h2 rfl rfl rfl BF_rf
theorem s_plus (hP : VP g l B h t σ) {v x : Nat} (hv : v < 3 ∨ g v) (hx : x < 3 ∨ g x) {L : Nat → Int32} (h1 : L 1 = nI v) (h2 : L 2 = nI x) : Tm (fun k => x_plus k 0 L σ) (VO g B h t σ) := by
  have hS := hP.1
  have hb := HS_b hS
  have hB := hS.2.1
  have ht := hP.2.2.1
  have kv : kdN (σ.2.2 28) v ≤ 6 := by
    by_cases e : 2 ≤ kdN (σ.2.2 28) v
    · obtain ⟨_, _, _, _, _, _, z, _⟩ := ob_at hS (kdN_ge hS hv e)
      exact z.2
    · omega
  have kx : kdN (σ.2.2 28) x ≤ 6 := by
    by_cases e : 2 ≤ kdN (σ.2.2 28) x
    · obtain ⟨_, _, _, _, _, _, z, _⟩ := ob_at hS (kdN_ge hS hx e)
      exact z.2
    · omega
  have b1 : ∀ N : Nat → Int32, Tm (fun k => x_plus k 1 N σ) (VO g B h t σ) := fun N => by
    refine Tm_suc (fun k => by rw [x_plus]) ?_
    refine Tm_ob (s_wrongKind _) (fun r hr => ?_)
    rw [hr]
    exact Tm_some (VO_er hP (e := 1) (by decide))
  refine Tm_suc (fun k => by rw [x_plus]) ?_
  refine Tm_ob (s_kind hS hv (by exact h1)) (fun r hr => ?_)
  rw [hr]
  refine Tm_ob (s_kind hS hx (by exact h2)) (fun r hr => ?_)
  rw [hr]
  have b2 : kdN (σ.2.2 28) v = kdN (σ.2.2 28) x → (kdN (σ.2.2 28) v = 2 ∨ 4 ≤ kdN (σ.2.2 28) v) → ∀ N : Nat → Int32, N 1 = nI v → N 2 = nI x → N 3 = nI (kdN (σ.2.2 28) v) → Tm (fun k => x_plus k 2 N σ) (VO g B h t σ) := by
    intro he hk N n1 n2 n3
    have gv : g v := kdN_ge hS hv (by omega)
    have gx : g x := kdN_ge hS hx (by omega)
    refine Tm_suc (fun k => by rw [x_plus]) ?_
    rw [n3]
    refine Tm_ite (fun w => ?_) (fun w => ?_)
    · have w := (n_eq (q := 2) (by omega) (by decide)).mp w
      obtain ⟨n, hn⟩ := Wh_of hS hv w
      obtain ⟨m, hm⟩ := Wh_of hS hx (by omega)
      exact Tm_ob (s_add hP hn hm (by exact n1) (by exact n2) (Or.inl rfl)) (fun r hr => Tm_some hr)
    refine Tm_suc (fun k => by rw [x_plus]) ?_
    rw [n3]
    refine Tm_ite (fun _ => Tm_ob (s_joined hP gv gx (by exact n1) (by exact n2)) (fun r hr => Tm_some hr)) (fun w2 => ?_)
    have hk5 : 5 ≤ kdN (σ.2.2 28) v := by
      by_cases e : kdN (σ.2.2 28) v = 4
      · exact absurd (by rw [e]; rfl) w2
      · by_cases e2 : kdN (σ.2.2 28) v = 2
        · exact absurd (by rw [e2]; rfl) w
        · omega
    obtain ⟨n, v1, v2, v3, v4, v5, v6, v7⟩ := ob_at hS gv
    obtain ⟨m, x1, x2, x3, x4, x5, x6, x7⟩ := ob_at hS gx
    have v7 := v7 hk5
    have x7 := x7 (by omega)
    have b10 : ∀ (N : Nat → Int32) (r : Int32 × MS), N 100 = r.1 → VO g B h t σ r → Tm (fun k => x_plus k 10 N r.2) (VO g B h t σ) := fun N r hN hr => by
      refine Tm_suc (fun k => by rw [x_plus]) ?_
      rw [hN]
      exact Tm_some hr
    have b8 : ∀ (N : Nat → Int32) (τ : MS), N 4 = nI t → PuS g t (n + m) σ τ → Tm (fun k => x_plus k 8 N τ) (VO g B h t σ) := fun N τ n4 hU => by
      refine Tm_suc (fun k => by rw [x_plus]) ?_
      refine Tm_ite (fun _ => ?_) (fun _ => ?_)
      · exact Tm_ob (PuS_set hU hS hP.2.2.2 (by omega) (by omega) (by exact n4)) (fun r hr => b10 _ r rfl hr)
      · refine Tm_suc (fun k => by rw [x_plus]) ?_
        exact Tm_ob (PuS_tup hU hS hP.2.2.2 (by omega) (by exact n4)) (fun r hr => b10 _ r rfl hr)
    have b7 : ∀ (q i : Nat) (N : Nat → Int32) (τ : MS), q + i = m → N 2 = nI x → N 4 = nI t → N 5 = nI i → PuS g t (n + i) σ τ → Tm (fun k => x_plus k 7 N τ) (VO g B h t σ) := by
      intro q
      induction q with
      | zero =>
        intro i N τ hi n2 n4 n5 hU
        have : i = m := by omega
        subst this
        refine Tm_suc (fun k => by rw [x_plus]) ?_
        rw [n2, n5, show nI x + 1 = nI (x + 1) from n_add1 x]
        refine Tm_chk (n_in (by omega) (by omega)) ?_
        rw [n_cl (p := x + 1) (by omega), hU.2.1 28 (by decide), x1]
        exact Tm_ite (fun _ => b8 N τ n4 hU) (fun w => absurd ((n_le (by omega) (by omega)).mpr (by omega)) w)
      | succ q ih =>
        intro i N τ hi n2 n4 n5 hU
        refine Tm_suc (fun k => by rw [x_plus]) ?_
        rw [n2, n5, show nI x + 1 = nI (x + 1) from n_add1 x, show nI x + 4 = nI (x + 4) from n_add (q := 4) (by omega), n_add (by omega)]
        refine Tm_chk (n_in (by omega) (by omega)) ?_
        rw [n_cl (p := x + 1) (by omega), hU.2.1 28 (by decide), x1]
        refine Tm_ite (fun w => absurd ((n_le (by omega) (by omega)).mp w) (by omega)) (fun _ => ?_)
        refine Tm_chk (n_in (by omega) (by omega)) ?_
        obtain ⟨y, y1, y2⟩ := x7 i (by omega)
        rw [n_cl (p := x + 4 + i) (by omega), y1]
        exact Tm_ob (PuS_push hU (by omega) y2 rfl) (fun r hr => ih (i + 1) _ _ (by omega) n2 n4 (n_add1 i) hr)
    have b5 : ∀ (q i : Nat) (N : Nat → Int32) (τ : MS), q + i = n → N 1 = nI v → N 2 = nI x → N 4 = nI t → N 5 = nI i → PuS g t i σ τ → Tm (fun k => x_plus k 5 N τ) (VO g B h t σ) := by
      intro q
      induction q with
      | zero =>
        intro i N τ hi n1 n2 n4 n5 hU
        have : i = n := by omega
        subst this
        refine Tm_suc (fun k => by rw [x_plus]) ?_
        rw [n1, n5, show nI v + 1 = nI (v + 1) from n_add1 v]
        refine Tm_chk (n_in (by omega) (by omega)) ?_
        rw [n_cl (p := v + 1) (by omega), hU.2.1 28 (by decide), v1]
        refine Tm_ite (fun _ => ?_) (fun w => absurd ((n_le (by omega) (by omega)).mpr (by omega)) w)
        refine Tm_suc (fun k => by rw [x_plus]) ?_
        exact b7 m 0 _ _ (by omega) n2 n4 rfl hU
      | succ q ih =>
        intro i N τ hi n1 n2 n4 n5 hU
        refine Tm_suc (fun k => by rw [x_plus]) ?_
        rw [n1, n5, show nI v + 1 = nI (v + 1) from n_add1 v, show nI v + 4 = nI (v + 4) from n_add (q := 4) (by omega), n_add (by omega)]
        refine Tm_chk (n_in (by omega) (by omega)) ?_
        rw [n_cl (p := v + 1) (by omega), hU.2.1 28 (by decide), v1]
        refine Tm_ite (fun w => absurd ((n_le (by omega) (by omega)).mp w) (by omega)) (fun _ => ?_)
        refine Tm_chk (n_in (by omega) (by omega)) ?_
        obtain ⟨y, y1, y2⟩ := v7 i (by omega)
        rw [n_cl (p := v + 4 + i) (by omega), y1]
        exact Tm_ob (PuS_push hU (by omega) y2 rfl) (fun r hr => ih (i + 1) _ _ (by omega) n1 n2 n4 (n_add1 i) hr)
    refine Tm_suc (fun k => by rw [x_plus]) ?_
    rw [hP.2.1]
    exact b5 n 0 _ _ (by omega) n1 n2 rfl rfl (PuS_0 hP.2.1)
  refine Tm_ite (fun w => ?_) (fun _ => b1 _)
  have w := (n_eq (by omega) (by omega)).mp w
  refine Tm_ite (fun w2 => b2 w (Or.inl ((n_eq (q := 2) (by omega) (by decide)).mp w2)) _ h1 h2 rfl) (fun _ => ?_)
  exact Tm_ite (fun w2 => b2 w (Or.inr ((n_le (p := 4) (by decide) (by omega)).mp w2)) _ h1 h2 rfl) (fun _ => b1 _)
end PLU
end JnS115
section JnS116
/-! In; repeat (reference). -/
section ISI
variable {g : Nat → Prop} {l : List Nat} {B h t : Nat} {σ : MS}
theorem kdN_6 (hS : HS g l B h σ) {v : Nat} (hv : v < 3 ∨ g v) : kdN (σ.2.2 28) v ≤ 6 := by
  by_cases e : 2 ≤ kdN (σ.2.2 28) v
  · obtain ⟨_, _, _, _, _, _, z, _⟩ := ob_at hS (kdN_ge hS hv e)
    exact z.2
  · omega
theorem Vd_12 {x : Int32} (hx : x = 1 ∨ x = 2) : Vd g x := by
  rcases hx with hx | hx
  · rw [hx]; exact Vd_1
  · rw [hx]; exact Vd_2
/-- in a string -/
theorem s_isIn12 (hS : HS g l B h σ) {v x : Nat} (hv : g v) (hx : g x) : ∀ (N : Nat → Int32), N 1 = nI x → N 2 = nI v → N 5 = nI 0 → Tm (fun k => x_isIn k 12 N σ) (fun r => r.2 = σ ∧ (r.1 = 1 ∨ r.1 = 2)) := by
  have hb := HS_b hS
  have hB := hS.2.1
  obtain ⟨m, v1, v2, v3, v4, -, -, -⟩ := ob_at hS hv
  obtain ⟨n, x1, x2, x3, x4, -, -, -⟩ := ob_at hS hx
  have b17 : ∀ N : Nat → Int32, Tm (fun k => x_isIn k 17 N σ) (fun r => r.2 = σ ∧ (r.1 = 1 ∨ r.1 = 2)) := fun N => by
    refine Tm_suc (fun k => by rw [x_isIn]) ?_
    exact Tm_ob (s_truth _) (fun r hr => Tm_some hr)
  have b12 : ∀ (q i : Nat) (N : Nat → Int32), m + 1 ≤ q + i → i ≤ m + 1 → N 1 = nI x → N 2 = nI v → N 5 = nI i → Tm (fun k => x_isIn k 12 N σ) (fun r => r.2 = σ ∧ (r.1 = 1 ∨ r.1 = 2)) := by
    intro q
    induction q with
    | zero =>
      intro i N hi hi2 n1 n2 n5
      refine Tm_suc (fun k => by rw [x_isIn]) ?_
      rw [n1, n2, n5, show nI v + 1 = nI (v + 1) from n_add1 v, show nI x + 1 = nI (x + 1) from n_add1 x]
      refine Tm_chk (n_in (by omega) (by omega)) ?_
      refine Tm_chk (n_in (by omega) (by omega)) ?_
      rw [n_cl (p := v + 1) (by omega), n_cl (p := x + 1) (by omega), v1, x1, n_add (by omega)]
      exact Tm_ite (fun _ => b17 N) (fun w => absurd ((n_lt (by omega) (by omega)).mpr (by omega)) w)
    | succ q ih =>
      intro i N hi hi2 n1 n2 n5
      refine Tm_suc (fun k => by rw [x_isIn]) ?_
      rw [n1, n2, n5, show nI v + 1 = nI (v + 1) from n_add1 v, show nI x + 1 = nI (x + 1) from n_add1 x]
      refine Tm_chk (n_in (by omega) (by omega)) ?_
      refine Tm_chk (n_in (by omega) (by omega)) ?_
      rw [n_cl (p := v + 1) (by omega), n_cl (p := x + 1) (by omega), v1, x1, n_add (by omega)]
      refine Tm_ite (fun _ => b17 N) (fun w => ?_)
      have hle : i + n ≤ m := by
        by_cases e : m < i + n
        · exact absurd ((n_lt (by omega) (by omega)).mpr e) w
        · omega
      refine Tm_ite (fun _ => ?_) (fun _ => b17 N)
      have b16 : ∀ (M : Nat → Int32), M 1 = nI x → M 2 = nI v → M 5 = nI i → Tm (fun k => x_isIn k 16 M σ) (fun r => r.2 = σ ∧ (r.1 = 1 ∨ r.1 = 2)) := fun M m1 m2 m5 => by
        refine Tm_suc (fun k => by rw [x_isIn]) ?_
        exact ih (i + 1) _ (by omega) (by omega) m1 m2 (by show M 5 + 1 = _; rw [m5, n_add1])
      have b13 : ∀ (p j : Nat) (M : Nat → Int32), p + j = n → M 1 = nI x → M 2 = nI v → M 5 = nI i → M 7 = nI j → Tm (fun k => x_isIn k 13 M σ) (fun r => r.2 = σ ∧ (r.1 = 1 ∨ r.1 = 2)) := by
        intro p
        induction p with
        | zero =>
          intro j M hj m1 m2 m5 m7
          refine Tm_suc (fun k => by rw [x_isIn]) ?_
          rw [m1, m7, show nI x + 1 = nI (x + 1) from n_add1 x]
          refine Tm_chk (n_in (by omega) (by omega)) ?_
          rw [n_cl (p := x + 1) (by omega), x1]
          exact Tm_ite (fun _ => b16 M m1 m2 m5) (fun w => absurd ((n_le (by omega) (by omega)).mpr (by omega)) w)
        | succ p ihp =>
          intro j M hj m1 m2 m5 m7
          refine Tm_suc (fun k => by rw [x_isIn]) ?_
          rw [m1, m7, m2, m5, show nI x + 1 = nI (x + 1) from n_add1 x, show nI v + 4 = nI (v + 4) from n_add (q := 4) (by omega), show nI x + 4 = nI (x + 4) from n_add (q := 4) (by omega), n_add (p := v + 4) (by omega), n_add (p := v + 4 + i) (by omega), n_add (p := x + 4) (by omega)]
          refine Tm_chk (n_in (by omega) (by omega)) ?_
          rw [n_cl (p := x + 1) (by omega), x1]
          refine Tm_ite (fun _ => b16 M m1 m2 m5) (fun _ => ?_)
          refine Tm_ite (fun _ => b16 M m1 m2 m5) (fun _ => ?_)
          refine Tm_chk (n_in (by omega) (by omega)) ?_
          refine Tm_chk (n_in (by omega) (by omega)) ?_
          have b15 : ∀ (O : Nat → Int32), O 1 = nI x → O 2 = nI v → O 5 = nI i → O 7 = nI j → Tm (fun k => x_isIn k 15 O σ) (fun r => r.2 = σ ∧ (r.1 = 1 ∨ r.1 = 2)) := fun O o1 o2 o5 o7 => by
            refine Tm_suc (fun k => by rw [x_isIn]) ?_
            exact ihp (j + 1) _ (by omega) o1 o2 o5 (by show O 7 + 1 = _; rw [o7, n_add1])
          refine Tm_ite (fun _ => b15 _ m1 m2 m5 m7) (fun _ => ?_)
          refine Tm_suc (fun k => by rw [x_isIn]) ?_
          exact b15 _ m1 m2 m5 m7
      exact b13 n 0 _ (by omega) n1 n2 n5 rfl
  intro N n1 n2 n5
  exact b12 (m + 1) 0 N (by omega) (by omega) n1 n2 n5
theorem s_isIn (hP : VP g l B h t σ) {v x : Nat} (hv : v < 3 ∨ g v) (hx : x < 3 ∨ g x) {L : Nat → Int32} (h1 : L 1 = nI x) (h2 : L 2 = nI v) : Tm (fun k => x_isIn k 0 L σ) (VO g B h t σ) := by
  have hS := hP.1
  have hb := HS_b hS
  have hB := hS.2.1
  have kv := kdN_6 hS hv
  have kx := kdN_6 hS hx
  have fin : ∀ r : Int32 × MS, r.2 = σ ∧ (r.1 = 1 ∨ r.1 = 2) → VO g B h t σ r := fun r hr => by
    obtain ⟨r1, r2⟩ := r
    obtain ⟨e, f⟩ := hr
    have e : r2 = σ := e
    subst e
    exact VO_id hP (Vd_12 f)
  have b10 : ∀ N : Nat → Int32, Tm (fun k => x_isIn k 10 N σ) (VO g B h t σ) := fun N => by
    refine Tm_suc (fun k => by rw [x_isIn]) ?_
    refine Tm_ob (s_wrongKind _) (fun r hr => ?_)
    rw [hr]
    exact Tm_some (VO_er hP (e := 1) (by decide))
  have b2 : ∀ N : Nat → Int32, Tm (fun k => x_isIn k 2 N σ) (VO g B h t σ) := fun N => by
    refine Tm_suc (fun k => by rw [x_isIn]) ?_
    exact Tm_ob (s_truth _) (fun r hr => Tm_some (fin r hr))
  have b1 : ∀ N : Nat → Int32, Tm (fun k => x_isIn k 1 N σ) (VO g B h t σ) := fun N => by
    refine Tm_suc (fun k => by rw [x_isIn]) ?_
    exact b2 _
  have b8 : ∀ N : Nat → Int32, Tm (fun k => x_isIn k 8 N σ) (VO g B h t σ) := fun N => by
    refine Tm_suc (fun k => by rw [x_isIn]) ?_
    exact Tm_ob (s_truth _) (fun r hr => Tm_some (fin r hr))
  refine Tm_suc (fun k => by rw [x_isIn]) ?_
  refine Tm_ob (s_kind hS hv (by exact h2)) (fun r hr => ?_)
  rw [hr]
  refine Tm_ite (fun w => ?_) (fun w => ?_)
  · have w := (n_eq (q := 6) (by omega) (by decide)).mp w
    refine Tm_ite (fun _ => b1 _) (fun _ => ?_)
    refine Tm_ob (s_has hS (kdN_ge hS hv (by omega)) (by omega) hx (by exact h2) (by exact h1)) (fun r hr => ?_)
    rw [hr.1]
    exact Tm_ite (fun _ => b1 _) (fun _ => b2 _)
  refine Tm_suc (fun k => by rw [x_isIn]) ?_
  show Tm (fun k => if nI (kdN (σ.2.2 28) v) = 5 then x_isIn k 4 (upd (upd (upd L 3 (nI (kdN (σ.2.2 28) v))) 4 0) 5 0) σ else x_isIn k 9 (upd L 3 (nI (kdN (σ.2.2 28) v))) σ) _
  refine Tm_ite (fun w => ?_) (fun w => ?_)
  · have w := (n_eq (q := 5) (by omega) (by decide)).mp w
    obtain ⟨n, v1, v2, v3, v4, v5, v6, v7⟩ := ob_at hS (kdN_ge hS hv (by omega))
    have v7 := v7 (by omega)
    have b4 : ∀ (q i : Nat) (N : Nat → Int32), q + i = n → N 1 = nI x → N 2 = nI v → N 5 = nI i → Tm (fun k => x_isIn k 4 N σ) (VO g B h t σ) := by
      intro q
      induction q with
      | zero =>
        intro i N hi n1 n2 n5
        refine Tm_suc (fun k => by rw [x_isIn]) ?_
        rw [n2, n5, show nI v + 1 = nI (v + 1) from n_add1 v]
        refine Tm_chk (n_in (by omega) (by omega)) ?_
        rw [n_cl (p := v + 1) (by omega), v1]
        exact Tm_ite (fun _ => b8 N) (fun w => absurd ((n_le (by omega) (by omega)).mpr (by omega)) w)
      | succ q ih =>
        intro i N hi n1 n2 n5
        have b7 : ∀ M : Nat → Int32, M 1 = nI x → M 2 = nI v → M 5 = nI i → Tm (fun k => x_isIn k 7 M σ) (VO g B h t σ) := fun M m1 m2 m5 => by
          refine Tm_suc (fun k => by rw [x_isIn]) ?_
          exact ih (i + 1) _ (by omega) m1 m2 (by show M 5 + 1 = _; rw [m5, n_add1])
        have b5 : Tm (fun k => x_isIn k 5 N σ) (VO g B h t σ) := by
          refine Tm_suc (fun k => by rw [x_isIn]) ?_
          exact b7 _ n1 n2 n5
        have b6 : Tm (fun k => x_isIn k 6 N σ) (VO g B h t σ) := by
          refine Tm_suc (fun k => by rw [x_isIn]) ?_
          exact b7 _ n1 n2 n5
        refine Tm_suc (fun k => by rw [x_isIn]) ?_
        rw [n2, n5, show nI v + 1 = nI (v + 1) from n_add1 v, show nI v + 4 = nI (v + 4) from n_add (q := 4) (by omega), n_add (by omega)]
        refine Tm_chk (n_in (by omega) (by omega)) ?_
        rw [n_cl (p := v + 1) (by omega), v1]
        refine Tm_ite (fun _ => b8 N) (fun _ => ?_)
        refine Tm_ite (fun _ => b8 N) (fun _ => ?_)
        refine Tm_ite (fun _ => ?_) (fun _ => b5)
        refine Tm_chk (n_in (by omega) (by omega)) ?_
        obtain ⟨y, y1, y2⟩ := v7 i (by omega)
        rw [n_cl (p := v + 4 + i) (by omega), y1]
        refine Tm_ob (s_compareV hS y2 hx rfl (by exact n1)) (fun r hr => ?_)
        rw [hr]
        exact Tm_ite (fun _ => b5) (fun _ => b6)
    exact b4 n 0 _ (by omega) h1 h2 rfl
  refine Tm_suc (fun k => by rw [x_isIn]) ?_
  show Tm (fun k => if nI (kdN (σ.2.2 28) v) = 4 then ob (x_kind k 0 (upd (fun _ => 0) 1 (L 1)) σ) (fun r2 => if r2.1 = 4 then (x_isIn k 11 (upd L 3 (nI (kdN (σ.2.2 28) v))) r2.2) else (x_isIn k 10 (upd L 3 (nI (kdN (σ.2.2 28) v))) r2.2)) else x_isIn k 10 (upd L 3 (nI (kdN (σ.2.2 28) v))) σ) _
  refine Tm_ite (fun w => ?_) (fun _ => b10 _)
  have w := (n_eq (q := 4) (by omega) (by decide)).mp w
  refine Tm_ob (s_kind hS hx (by exact h1)) (fun r hr => ?_)
  rw [hr]
  refine Tm_ite (fun w2 => ?_) (fun _ => b10 _)
  have w2 := (n_eq (q := 4) (by omega) (by decide)).mp w2
  refine Tm_suc (fun k => by rw [x_isIn]) ?_
  exact Tm_mono (s_isIn12 hS (kdN_ge hS hv (by omega)) (kdN_ge hS hx (by omega)) _ h1 h2 rfl) (fun r hr => fin r hr)
end ISI
end JnS116
section JnS117
/-! Repeat; operate (reference). -/
section OPE
variable {g : Nat → Prop} {l : List Nat} {B h t : Nat} {σ : MS}
theorem n_mulN (a b : Nat) : nI a * nI b = nI (a * b) := (Int32.ofNat_mul a b).symm
theorem w_mul {a b : Nat} (ha : a ≤ 65535) (hb : b ≤ 65535) : ((nI a).toInt64 * (nI b).toInt64).toInt = ((a * b : Nat) : Int) := by
  have hab : a * b ≤ 65535 * 65535 := Nat.mul_le_mul ha hb
  rw [Int64.toInt_mul, w_int (by omega), w_int (by omega), ← Int.natCast_mul]
  exact Int.bmod_eq_of_le (by omega) (by omega)
theorem n_rem {i n : Nat} (hi : i < 2147483648) (hn : 0 < n) (hn2 : n < 2147483648) : ∃ j, j < n ∧ nI i - nI i / nI n * nI n = nI j := by
  refine ⟨i % n, Nat.mod_lt _ hn, ?_⟩
  have h1 : i / n * n ≤ i := Nat.div_mul_le_self i n
  have h2 := Nat.div_add_mod i n
  rw [Nat.mul_comm] at h2
  rw [n_div hi hn hn2, n_mulN, n_sub hi h1]
  congr 1
  omega
theorem s_repeat (hP : VP g l B h t σ) {v x : Nat} (hv : g v) (hk : kdN (σ.2.2 28) v = 4 ∨ kdN (σ.2.2 28) v = 5) (hx : g x) (hkx : kdN (σ.2.2 28) x = 2) {L : Nat → Int32} (h1 : L 1 = nI v) (h2 : L 2 = nI x) : Tm (fun k => x_repeat k 0 L σ) (VO g B h t σ) := by
  have hS := hP.1
  have hb := HS_b hS
  have hB := hS.2.1
  have ht := hP.2.2.1
  obtain ⟨n, v1, v2, v3, v4, v5, v6, v7⟩ := ob_at hS hv
  obtain ⟨w, hw⟩ := Wh_of hS (Or.inr hx) hkx
  have hwb := hw.2.2.2.1
  have hw1 := hw.2.1
  have b4 : ∀ (y : Nat) (N : Nat → Int32), n * y ≤ 8000 → N 1 = nI v → N 3 = nI n → N 4 = nI y → Tm (fun k => x_repeat k 4 N σ) (VO g B h t σ) := by
    intro y N hny n1 n3 n4
    have b5 : ∀ (q i : Nat) (N : Nat → Int32) (τ : MS), q + i = n * y → N 1 = nI v → N 3 = nI n → N 4 = nI y → N 5 = nI i → BF σ τ → Tm (fun k => x_repeat k 5 N τ) (VO g B h t σ) := by
      intro q
      induction q with
      | zero =>
        intro i N τ hi n1 n3 n4 n5 hF
        refine Tm_suc (fun k => by rw [x_repeat]) ?_
        rw [n3, n4, n5, n_mulN]
        refine Tm_ite (fun _ => ?_) (fun w => absurd ((n_le (by omega) (by omega)).mpr (by omega)) w)
        refine Tm_suc (fun k => by rw [x_repeat]) ?_
        rw [n3, n4, n_mulN]
        exact Tm_ob (s_stringOf51 (BF_VP hF hP) (f := 0) (n := n * y) (by omega) (fun _ => by omega) rfl rfl) (fun r hr => Tm_some (BF_VO hF hP hr))
      | succ q ih =>
        intro i N τ hi n1 n3 n4 n5 hF
        have hn0 : 0 < n := by
          by_cases e : n = 0
          · rw [e, Nat.zero_mul] at hi; omega
          · omega
        obtain ⟨j, j1, j2⟩ := n_rem (i := i) (n := n) (by omega) hn0 (by omega)
        refine Tm_suc (fun k => by rw [x_repeat]) ?_
        rw [n3, n4, n5, n_mulN, n1, j2, show nI v + 4 = nI (v + 4) from n_add (q := 4) (by omega), n_add (by omega)]
        refine Tm_ite (fun w => absurd ((n_le (by omega) (by omega)).mp w) (by omega)) (fun _ => ?_)
        refine Tm_chk0 (fun z => absurd ((n_eq (q := 0) (by omega) (by decide)).mp z) (by omega)) ?_
        refine Tm_chk (n_in (by omega) (by omega)) ?_
        refine Tm_chk (n_in (by omega) (by omega)) ?_
        rw [n_cl (p := i) (by omega)]
        show Tm (fun k => x_repeat k 6 N (mAr τ 51 i (τ.2.2 28 (nI (v + 4 + j)).toNatClampNeg))) _
        refine Tm_suc (fun k => by rw [x_repeat]) ?_
        exact ih (i + 1) _ _ (by omega) n1 n3 n4 (by show N 5 + 1 = _; rw [n5, n_add1]) (BF_51 hF)
    have b9 : (5 ≤ kdN (σ.2.2 28) v) → ∀ (q i : Nat) (N : Nat → Int32) (τ : MS), q + i = n * y → N 1 = nI v → N 3 = nI n → N 4 = nI y → N 5 = nI t → N 6 = nI i → PuS g t i σ τ → Tm (fun k => x_repeat k 9 N τ) (VO g B h t σ) := by
      intro hk5
      have v7 := v7 hk5
      intro q
      induction q with
      | zero =>
        intro i N τ hi n1 n3 n4 n5 n6 hU
        refine Tm_suc (fun k => by rw [x_repeat]) ?_
        rw [n3, n4, n6, n_mulN]
        refine Tm_ite (fun _ => ?_) (fun w => absurd ((n_le (by omega) (by omega)).mpr (by omega)) w)
        refine Tm_suc (fun k => by rw [x_repeat]) ?_
        exact Tm_ob (PuS_tup hU hS hP.2.2.2 (by omega) (by exact n5)) (fun r hr => Tm_some hr)
      | succ q ih =>
        intro i N τ hi n1 n3 n4 n5 n6 hU
        have hn0 : 0 < n := by
          by_cases e : n = 0
          · rw [e, Nat.zero_mul] at hi; omega
          · omega
        obtain ⟨j, j1, j2⟩ := n_rem (i := i) (n := n) (by omega) hn0 (by omega)
        refine Tm_suc (fun k => by rw [x_repeat]) ?_
        rw [n3, n4, n6, n_mulN, n1, j2, show nI v + 4 = nI (v + 4) from n_add (q := 4) (by omega), n_add (by omega)]
        refine Tm_ite (fun w => absurd ((n_le (by omega) (by omega)).mp w) (by omega)) (fun _ => ?_)
        refine Tm_chk0 (fun z => absurd ((n_eq (q := 0) (by omega) (by decide)).mp z) (by omega)) ?_
        refine Tm_chk (n_in (by omega) (by omega)) ?_
        obtain ⟨z, z1, z2⟩ := v7 j (by omega)
        rw [n_cl (p := v + 4 + j) (by omega), hU.2.1 28 (by decide), z1]
        exact Tm_ob (PuS_push hU (by omega) z2 rfl) (fun r hr => ih (i + 1) _ _ (by omega) n1 n3 n4 n5 (n_add1 i) hr)
    refine Tm_suc (fun k => by rw [x_repeat]) ?_
    rw [n1]
    refine Tm_chk (n_in (by omega) (by omega)) ?_
    rw [n_cl (p := v) (by omega), v5]
    refine Tm_ite (fun _ => ?_) (fun z => ?_)
    · exact b5 (n * y) 0 _ _ (by omega) n1 n3 n4 rfl BF_rf
    · have hk5 : 5 ≤ kdN (σ.2.2 28) v := by
        by_cases e : kdN (σ.2.2 28) v = 4
        · exact absurd (by rw [e]; rfl) z
        · omega
      refine Tm_suc (fun k => by rw [x_repeat]) ?_
      rw [hP.2.1]
      exact b9 hk5 (n * y) 0 _ _ (by omega) n1 n3 n4 rfl rfl (PuS_0 hP.2.1)
  have b3 : ∀ (y : Nat) (N : Nat → Int32), y ≤ 5001 → N 1 = nI v → N 3 = nI n → N 100 = nI y → Tm (fun k => x_repeat k 3 N σ) (VO g B h t σ) := by
    intro y N hy n1 n3 n100
    refine Tm_suc (fun k => by rw [x_repeat]) ?_
    rw [n3, n100]
    refine Tm_ite (fun z => ?_) (fun _ => ?_)
    · have z := w_cmp.mp z
      rw [w_mul (by omega) (by omega)] at z
      have z : ((n * y : Nat) : Int) ≤ 8000 := z
      exact b4 y _ (by omega) n1 n3 rfl
    · refine Tm_ob (s_fail _ σ) (fun r hr => ?_)
      rw [hr]
      exact Tm_some (VO_er hP (e := 5) (by decide))
  refine Tm_suc (fun k => by rw [x_repeat]) ?_
  refine Tm_ob (s_signOf hS (m := x) (by omega) (by exact h2)) (fun r hr => ?_)
  rw [hr]
  refine Tm_ite (fun z0 => ?_) (fun _ => ?_)
  · refine Tm_suc (fun k => by rw [x_repeat]) ?_
    rw [h1, show nI v + 1 = nI (v + 1) from n_add1 v]
    refine Tm_chk (n_in (by omega) (by omega)) ?_
    rw [n_cl (p := v + 1) (by omega), v1]
    refine Tm_ite (fun _ => b3 0 _ (by omega) h1 rfl rfl) (fun _ => ?_)
    refine Tm_suc (fun k => by rw [x_repeat]) ?_
    refine Tm_ob (s_intOf hS hw (b := 5000) (by decide) (by exact h2) rfl) (fun r hr => ?_)
    obtain ⟨r1, y, y1, y2, y3⟩ := hr
    rw [r1]
    exact b3 y _ y1 h1 rfl (y3 z0)
  · refine Tm_ob (s_fail _ σ) (fun r hr => ?_)
    rw [hr]
    exact Tm_some (VO_er hP (e := 4) (by decide))
end OPE
end JnS117
section JnS118
/-! Operate (reference). -/
section OPE
variable {g : Nat → Prop} {l : List Nat} {B h t : Nat} {σ : MS}
theorem VO_tru (hP : VP g l B h t σ) {r : Int32 × MS} (hr : r.2 = σ ∧ (r.1 = 1 ∨ r.1 = 2)) : VO g B h t σ r := by
  obtain ⟨r1, r2⟩ := r
  obtain ⟨e, f⟩ := hr
  have e : r2 = σ := e
  subst e
  exact VO_id hP (Vd_12 f)
theorem VO_wk (hP : VP g l B h t σ) {r : Int32 × MS} (hr : r = (0, mEr σ (nI 1))) : VO g B h t σ r := by
  rw [hr]; exact VO_er hP (e := 1) (by decide)
/-- truth of what is at the end of an operation -/
theorem VO_tru2 {r s : Int32 × MS} (hr : VO g B h t σ r) (hs : s.2 = r.2 ∧ (s.1 = 1 ∨ s.1 = 2)) : VO g B h t σ s := by
  obtain ⟨g', l', h', a1, a2, a3, a4, a5, a6⟩ := hr
  obtain ⟨e, f⟩ := hs
  refine ⟨g', l', h', ?_, ?_, ?_, ?_, ?_, Vd_12 f⟩
  · rw [e]; exact a1
  · rw [e]; exact a2
  · rw [e]; exact a3
  · rw [e]; exact a4
  · rw [e]; exact a5
theorem s_operate (hP : VP g l B h t σ) {v x : Nat} (hv : v < 3 ∨ g v) (hx : x < 3 ∨ g x) {L : Nat → Int32} (h2 : L 2 = nI v) (h3 : L 3 = nI x) : Tm (fun k => x_operate k 0 L σ) (VO g B h t σ) := by
  have hS := hP.1
  have kv := kdN_6 hS hv
  have kx := kdN_6 hS hx
  -- what the head brings
  have body : ∀ N : Nat → Int32, N 2 = nI v → N 3 = nI x → N 4 = nI (kdN (σ.2.2 28) v) → N 5 = nI (kdN (σ.2.2 28) x) → (¬ N 100 = 0 → kdN (σ.2.2 28) v = 2 ∧ kdN (σ.2.2 28) x = 2) → Tm (fun k => x_operate k 2 N σ) (VO g B h t σ) := by
    intro N n2 n3 n4 n5 n6
    -- ends
    have e7 : ∀ (M : Nat → Int32) (r : Int32 × MS), M 100 = r.1 → VO g B h t σ r → Tm (fun k => x_operate k 7 M r.2) (VO g B h t σ) := fun M r hM hr => by
      refine Tm_suc (fun k => by rw [x_operate]) ?_
      rw [hM]; exact Tm_some hr
    have e13 : ∀ (M : Nat → Int32) (r : Int32 × MS), M 100 = r.1 → VO g B h t σ r → Tm (fun k => x_operate k 13 M r.2) (VO g B h t σ) := fun M r hM hr => by
      refine Tm_suc (fun k => by rw [x_operate]) ?_
      rw [hM]; exact Tm_some hr
    have e16 : ∀ (M : Nat → Int32) (r : Int32 × MS), M 100 = r.1 → VO g B h t σ r → Tm (fun k => x_operate k 16 M r.2) (VO g B h t σ) := fun M r hM hr => by
      refine Tm_suc (fun k => by rw [x_operate]) ?_
      rw [hM]; exact Tm_some hr
    have e25 : ∀ (M : Nat → Int32) (r : Int32 × MS), M 100 = r.1 → VO g B h t σ r → Tm (fun k => x_operate k 25 M r.2) (VO g B h t σ) := fun M r hM hr => by
      refine Tm_suc (fun k => by rw [x_operate]) ?_
      rw [hM]; exact Tm_some hr
    have e28 : ∀ (M : Nat → Int32) (r : Int32 × MS), M 100 = r.1 → VO g B h t σ r → Tm (fun k => x_operate k 28 M r.2) (VO g B h t σ) := fun M r hM hr => by
      refine Tm_suc (fun k => by rw [x_operate]) ?_
      rw [hM]; exact Tm_some hr
    have e35 : ∀ (M : Nat → Int32) (r : Int32 × MS), M 100 = r.1 → VO g B h t σ r → Tm (fun k => x_operate k 35 M r.2) (VO g B h t σ) := fun M r hM hr => by
      refine Tm_suc (fun k => by rw [x_operate]) ?_
      rw [hM]; exact Tm_some hr
    have wh : kdN (σ.2.2 28) v = 2 ∧ kdN (σ.2.2 28) x = 2 → (∃ n, Wh σ v n) ∧ ∃ m, Wh σ x m := fun z => ⟨Wh_of hS hv z.1, Wh_of hS hx z.2⟩
    refine Tm_suc (fun k => by rw [x_operate]) ?_
    have m2 : upd N 6 (N 100) 2 = nI v := n2
    have m3 : upd N 6 (N 100) 3 = nI x := n3
    have m4 : upd N 6 (N 100) 4 = nI (kdN (σ.2.2 28) v) := n4
    have m5 : upd N 6 (N 100) 5 = nI (kdN (σ.2.2 28) x) := n5
    have m6 : ¬ upd N 6 (N 100) 6 = 0 → kdN (σ.2.2 28) v = 2 ∧ kdN (σ.2.2 28) x = 2 := n6
    generalize upd N 6 (N 100) = M at m2 m3 m4 m5 m6
    -- +
    refine Tm_ite (fun _ => ?_) (fun _ => ?_)
    · refine Tm_suc (fun k => by rw [x_operate]) ?_
      exact Tm_ob (s_plus hP hv hx (by exact m2) (by exact m3)) (fun r hr => Tm_some hr)
    -- -
    refine Tm_ite (fun _ => ?_) (fun _ => ?_)
    · refine Tm_suc (fun k => by rw [x_operate]) ?_
      refine Tm_ite (fun _ => ?_) (fun z => ?_)
      · have b6 : Tm (fun k => x_operate k 6 M σ) (VO g B h t σ) := by
          refine Tm_suc (fun k => by rw [x_operate]) ?_
          exact Tm_ob (s_wrongKind _) (fun r hr => e7 _ r rfl (VO_wk hP hr))
        refine Tm_suc (fun k => by rw [x_operate]) ?_
        rw [m4, m5]
        refine Tm_ite (fun z1 => ?_) (fun _ => b6)
        refine Tm_ite (fun z2 => ?_) (fun _ => b6)
        have z1 := (n_eq (q := 6) (by omega) (by decide)).mp z1
        have z2 := (n_eq (q := 6) (by omega) (by decide)).mp z2
        exact Tm_ob (s_sift hP (kdN_ge hS hv (by omega)) (by omega) (kdN_ge hS hx (by omega)) (by omega) (by exact m2) (by exact m3)) (fun r hr => e7 _ r rfl hr)
      · obtain ⟨⟨n, hn⟩, m, hm⟩ := wh (m6 z)
        exact Tm_ob (s_add hP hn hm (by exact m2) (by exact m3) (Or.inr rfl)) (fun r hr => Tm_some hr)
    -- *
    refine Tm_ite (fun _ => ?_) (fun _ => ?_)
    · refine Tm_suc (fun k => by rw [x_operate]) ?_
      refine Tm_ite (fun _ => ?_) (fun z => ?_)
      · have b12 : Tm (fun k => x_operate k 12 M σ) (VO g B h t σ) := by
          refine Tm_suc (fun k => by rw [x_operate]) ?_
          exact Tm_ob (s_wrongKind _) (fun r hr => e13 _ r rfl (VO_wk hP hr))
        have b11 : (kdN (σ.2.2 28) v = 4 ∨ kdN (σ.2.2 28) v = 5) → Tm (fun k => x_operate k 11 M σ) (VO g B h t σ) := fun hk => by
          refine Tm_suc (fun k => by rw [x_operate]) ?_
          rw [m5]
          refine Tm_ite (fun z2 => ?_) (fun _ => b12)
          have z2 := (n_eq (q := 2) (by omega) (by decide)).mp z2
          exact Tm_ob (s_repeat hP (kdN_ge hS hv (by omega)) hk (kdN_ge hS hx (by omega)) z2 (by exact m2) (by exact m3)) (fun r hr => e13 _ r rfl hr)
        have b10 : Tm (fun k => x_operate k 10 M σ) (VO g B h t σ) := by
          refine Tm_suc (fun k => by rw [x_operate]) ?_
          rw [m4]
          refine Tm_ite (fun z2 => b11 (Or.inl ((n_eq (q := 4) (by omega) (by decide)).mp z2))) (fun _ => ?_)
          exact Tm_ite (fun z2 => b11 (Or.inr ((n_eq (q := 5) (by omega) (by decide)).mp z2))) (fun _ => b12)
        refine Tm_suc (fun k => by rw [x_operate]) ?_
        rw [m4, m5]
        refine Tm_ite (fun z1 => ?_) (fun _ => b10)
        refine Tm_ite (fun z2 => ?_) (fun _ => b10)
        have z1 := (n_eq (q := 6) (by omega) (by decide)).mp z1
        have z2 := (n_eq (q := 6) (by omega) (by decide)).mp z2
        exact Tm_ob (s_sift hP (kdN_ge hS hv (by omega)) (by omega) (kdN_ge hS hx (by omega)) (by omega) (by exact m2) (by exact m3)) (fun r hr => Tm_some hr)
      · obtain ⟨⟨n, hn⟩, m, hm⟩ := wh (m6 z)
        exact Tm_ob (s_multiply hP hn hm (by exact m2) (by exact m3)) (fun r hr => Tm_some hr)
    -- **
    refine Tm_ite (fun _ => ?_) (fun _ => ?_)
    · refine Tm_suc (fun k => by rw [x_operate]) ?_
      refine Tm_ite (fun _ => ?_) (fun z => ?_)
      · refine Tm_suc (fun k => by rw [x_operate]) ?_
        exact Tm_ob (s_wrongKind _) (fun r hr => e16 _ r rfl (VO_wk hP hr))
      · obtain ⟨⟨n, hn⟩, m, hm⟩ := wh (m6 z)
        exact Tm_ob (s_raise hP hv hn hm (by exact m2) (by exact m3)) (fun r hr => e16 _ r rfl hr)
    -- =
    refine Tm_ite (fun _ => ?_) (fun _ => ?_)
    · have b19 : ∀ M : Nat → Int32, Tm (fun k => x_operate k 19 M σ) (VO g B h t σ) := fun M => by
        refine Tm_suc (fun k => by rw [x_operate]) ?_
        exact Tm_ob (s_truth _) (fun r hr => Tm_some (VO_tru hP hr))
      refine Tm_suc (fun k => by rw [x_operate]) ?_
      refine Tm_ob (s_compareV hS hv hx (by exact m2) (by exact m3)) (fun r hr => ?_)
      rw [hr]
      refine Tm_ite (fun _ => b19 _) (fun _ => ?_)
      refine Tm_suc (fun k => by rw [x_operate]) ?_
      exact b19 _
    -- /=
    refine Tm_ite (fun _ => ?_) (fun _ => ?_)
    · have b22 : ∀ M : Nat → Int32, Tm (fun k => x_operate k 22 M σ) (VO g B h t σ) := fun M => by
        refine Tm_suc (fun k => by rw [x_operate]) ?_
        exact Tm_ob (s_truth _) (fun r hr => Tm_some (VO_tru hP hr))
      refine Tm_suc (fun k => by rw [x_operate]) ?_
      refine Tm_ob (s_compareV hS hv hx (by exact m2) (by exact m3)) (fun r hr => ?_)
      rw [hr]
      refine Tm_ite (fun _ => ?_) (fun _ => b22 _)
      refine Tm_suc (fun k => by rw [x_operate]) ?_
      exact b22 _
    -- in
    refine Tm_ite (fun _ => ?_) (fun _ => ?_)
    · refine Tm_suc (fun k => by rw [x_operate]) ?_
      exact Tm_ob (s_isIn hP hx hv (by exact m2) (by exact m3)) (fun r hr => Tm_some hr)
    -- notin
    refine Tm_ite (fun _ => ?_) (fun _ => ?_)
    · refine Tm_suc (fun k => by rw [x_operate]) ?_
      refine Tm_ob (s_isIn hP hx hv (by exact m2) (by exact m3)) (fun r hr => ?_)
      have b32 : ∀ M : Nat → Int32, Tm (fun k => x_operate k 32 M r.2) (VO g B h t σ) := fun M => by
        refine Tm_suc (fun k => by rw [x_operate]) ?_
        exact Tm_ob (s_truth _) (fun s hs => Tm_some (VO_tru2 hr hs))
      refine Tm_ite (fun _ => b32 _) (fun _ => ?_)
      refine Tm_suc (fun k => by rw [x_operate]) ?_
      exact b32 _
    -- subset
    refine Tm_ite (fun _ => ?_) (fun _ => ?_)
    · have b34 : Tm (fun k => x_operate k 34 M σ) (VO g B h t σ) := by
        refine Tm_suc (fun k => by rw [x_operate]) ?_
        exact Tm_ob (s_wrongKind _) (fun r hr => e35 _ r rfl (VO_wk hP hr))
      refine Tm_suc (fun k => by rw [x_operate]) ?_
      rw [m4, m5]
      refine Tm_ite (fun z1 => ?_) (fun _ => b34)
      refine Tm_ite (fun z2 => ?_) (fun _ => b34)
      have z1 := (n_eq (q := 6) (by omega) (by decide)).mp z1
      have z2 := (n_eq (q := 6) (by omega) (by decide)).mp z2
      refine Tm_ob (s_isSubset hS (kdN_ge hS hv (by omega)) (by omega) (kdN_ge hS hx (by omega)) (by omega) (by exact m2) (by exact m3)) (fun r hr => ?_)
      rw [hr.1]
      exact Tm_ob (s_truth _) (fun s hs => e35 _ s rfl (VO_tru hP hs))
    -- div
    refine Tm_ite (fun _ => ?_) (fun _ => ?_)
    · refine Tm_suc (fun k => by rw [x_operate]) ?_
      refine Tm_ite (fun _ => ?_) (fun z => ?_)
      · refine Tm_suc (fun k => by rw [x_operate]) ?_
        exact Tm_ob (s_wrongKind _) (fun r hr => e25 _ r rfl (VO_wk hP hr))
      · obtain ⟨⟨n, hn⟩, m, hm⟩ := wh (m6 z)
        exact Tm_ob (s_divide hP hn hm (by exact m2) (by exact m3)) (fun r hr => e25 _ r rfl hr)
    -- mod
    refine Tm_ite (fun _ => ?_) (fun _ => ?_)
    · refine Tm_suc (fun k => by rw [x_operate]) ?_
      refine Tm_ite (fun _ => ?_) (fun z => ?_)
      · refine Tm_suc (fun k => by rw [x_operate]) ?_
        exact Tm_ob (s_wrongKind _) (fun r hr => e28 _ r rfl (VO_wk hP hr))
      · obtain ⟨⟨n, hn⟩, m, hm⟩ := wh (m6 z)
        exact Tm_ob (s_divide hP hn hm (by exact m2) (by exact m3)) (fun r hr => e28 _ r rfl hr)
    -- less, more
    have b46 : ∀ M : Nat → Int32, Tm (fun k => x_operate k 46 M σ) (VO g B h t σ) := fun M => by
      refine Tm_suc (fun k => by rw [x_operate]) ?_
      exact Tm_ob (s_truth _) (fun r hr => Tm_some (VO_tru hP hr))
    have b45 : ∀ M : Nat → Int32, Tm (fun k => x_operate k 45 M σ) (VO g B h t σ) := fun M => by
      refine Tm_suc (fun k => by rw [x_operate]) ?_
      exact b46 _
    have b44 : ∀ M : Nat → Int32, Tm (fun k => x_operate k 44 M σ) (VO g B h t σ) := fun M => by
      refine Tm_suc (fun k => by rw [x_operate]) ?_
      exact Tm_ite (fun _ => b45 _) (fun _ => b46 _)
    have b43 : ∀ M : Nat → Int32, Tm (fun k => x_operate k 43 M σ) (VO g B h t σ) := fun M => by
      refine Tm_suc (fun k => by rw [x_operate]) ?_
      exact b46 _
    have b42 : ∀ M : Nat → Int32, Tm (fun k => x_operate k 42 M σ) (VO g B h t σ) := fun M => by
      refine Tm_suc (fun k => by rw [x_operate]) ?_
      exact Tm_ite (fun _ => Tm_ite (fun _ => b43 _) (fun _ => b46 _)) (fun _ => b44 _)
    have b41 : ∀ M : Nat → Int32, Tm (fun k => x_operate k 41 M σ) (VO g B h t σ) := fun M => by
      refine Tm_suc (fun k => by rw [x_operate]) ?_
      exact b46 _
    have b40 : ∀ M : Nat → Int32, Tm (fun k => x_operate k 40 M σ) (VO g B h t σ) := fun M => by
      refine Tm_suc (fun k => by rw [x_operate]) ?_
      exact Tm_ite (fun _ => Tm_ite (fun _ => b41 _) (fun _ => b46 _)) (fun _ => b42 _)
    have b39 : ∀ M : Nat → Int32, Tm (fun k => x_operate k 39 M σ) (VO g B h t σ) := fun M => by
      refine Tm_suc (fun k => by rw [x_operate]) ?_
      exact b46 _
    have b38 : Tm (fun k => x_operate k 38 M σ) (VO g B h t σ) := by
      refine Tm_suc (fun k => by rw [x_operate]) ?_
      refine Tm_ob (s_compareV hS hv hx (by exact m2) (by exact m3)) (fun r hr => ?_)
      rw [hr]
      exact Tm_ite (fun _ => Tm_ite (fun _ => b39 _) (fun _ => b46 _)) (fun _ => b40 _)
    have b37 : Tm (fun k => x_operate k 37 M σ) (VO g B h t σ) := by
      refine Tm_suc (fun k => by rw [x_operate]) ?_
      exact Tm_ob (s_wrongKind _) (fun r hr => Tm_some (VO_wk hP hr))
    refine Tm_suc (fun k => by rw [x_operate]) ?_
    exact Tm_ite (fun _ => Tm_ite (fun _ => Tm_ite (fun _ => b38) (fun _ => b37)) (fun _ => b37)) (fun _ => b38)
  refine Tm_suc (fun k => by rw [x_operate]) ?_
  refine Tm_ob (s_kind hS hv (by exact h2)) (fun r hr => ?_)
  rw [hr]
  refine Tm_ob (s_kind hS hx (by exact h3)) (fun r hr => ?_)
  rw [hr]
  have b1 : ∀ N : Nat → Int32, N 2 = nI v → N 3 = nI x → N 4 = nI (kdN (σ.2.2 28) v) → N 5 = nI (kdN (σ.2.2 28) x) → Tm (fun k => x_operate k 1 N σ) (VO g B h t σ) := fun N n2 n3 n4 n5 => by
    refine Tm_suc (fun k => by rw [x_operate]) ?_
    exact body _ n2 n3 n4 n5 (fun z => absurd rfl z)
  refine Tm_ite (fun z1 => ?_) (fun _ => b1 _ h2 h3 rfl rfl)
  refine Tm_ite (fun z2 => ?_) (fun _ => b1 _ h2 h3 rfl rfl)
  exact body _ h2 h3 rfl rfl (fun _ => ⟨(n_eq (q := 2) (by omega) (by decide)).mp z1, (n_eq (q := 2) (by omega) (by decide)).mp z2⟩)
end OPE
end JnS118
