/-! Wholes are made (reference). -/
section WHM
variable {g : Nat → Prop} {l : List Nat} {B h t : Nat} {σ : MS}
theorem VO_NF_Tm {τ : MS} {f : Nat → Option (Int32 × MS)} (hN : NF σ τ) (hP : VP g l B h t σ) (b : Tm f (VO g B h t τ)) : Tm f (VO g B h t σ) := Tm_mono b (fun r hr => VO_NF hN hP hr)
theorem s_wholeOf (hP : VP g l B h t σ) {c : Nat} (hc : c ≤ 300) (h86 : σ.1 86 = nI c) (hLM : LM (σ.2.2 44) c) (L : Nat → Int32) (hsg : SgO (L 1) (σ.2.2 44) c) : Tm (fun k => x_wholeOf k 0 L σ) (VO g B h t σ) := by
  have hb := HS_b hP.1
  have hB := hP.1.2.1
  -- from the room on
  have l1 : ∀ (m : Nat) (τ : MS), m ≤ c → NF σ τ → τ.1 86 = nI m → τ.2.2 44 = σ.2.2 44 → ((L 1 = 1 ∨ L 1 = -1) ∨ m = 0) → Tm (fun k => x_wholeOf k 1 L τ) (VO g B h t σ) := by
    intro m τ hm hF t86 t44 hsm
    have hPt := NF_VP hF hP
    refine VO_NF_Tm hF hP ?_
    refine Tm_suc (fun k => by rw [x_wholeOf]) ?_
    rw [t86]
    refine Tm_ite (fun z => ?_) (fun z => ?_)
    case refine_2 =>
      refine Tm_ob (s_fail _ τ) (fun r hr => ?_)
      rw [hr]
      exact Tm_some (VO_er hPt (e := 5) (by decide))
    have z := (n_le (q := 64) (by omega) (by decide)).mp z
    refine Tm_suc (fun k => by rw [x_wholeOf]) ?_
    rw [t86, n_add1]
    refine Tm_ob (s_make hPt.1 (n := m + 1) (by omega) upd_same) (fun r hr => ?_)
    rcases hr with ⟨y, hr⟩ | ⟨y, hr⟩
    · rw [hr]
      refine Tm_ite (fun w => ?_) (fun _ => Tm_some (VO_er hPt (e := 5) (by decide)))
      obtain ⟨g', l', h', e1, e2, e3, ⟨e, e41, e42⟩, e5, e6⟩ := VO_er hPt (e := 5) (by decide)
      have w : (mEr τ 5).1 56 ≤ 0 := w
      have e41 : (mEr τ 5).1 56 = nI e := e41
      rw [e41] at w
      have w := (n_le0 (by omega)).mp w
      rw [w] at e41
      exact absurd e41 (mEr_e (by decide))
    rw [hr]
    have hErr : ErB τ := hPt.2.2.2
    refine Tm_ite (fun w => ?_) (fun w => ?_)
    case refine_2 =>
      -- an error stood before
      have hS2 := HS_mk (k := 2) hPt.1 y
      refine Tm_some ⟨g, _, _, ⟨hS2, fun _ z => z, by omega, fun i h1 h2 => ?_⟩, FW_mk, (mMk_s (by decide)).trans hPt.2.1, ?_, fun q => ?_, Vd_0⟩
      · rw [mMk_28, upd_other (by omega), upd_other (by omega), upd_other (by omega), upd_other (by omega)]
      · unfold ErB; rw [mMk_s (by decide)]; exact hErr
      · rw [mMk_s (by decide)]; exact q
    -- the limbs
    have fin : ∀ (N : Nat → Int32) (υ : MS), N 2 = nI h → FW t τ υ → υ.1 59 = τ.1 59 → υ.1 56 = τ.1 56 → υ.1 55 = nI (h + 4 + (m + 1)) → υ.1 86 = nI m → υ.2.2 28 h = nI 2 → υ.2.2 28 (h + 1) = nI (m + 1) → υ.2.2 28 (h + 3) = nI 0 → SgOK (υ.2.2 28) h (m + 1) → (∀ i, i < m → ∃ d, d ≤ 65535 ∧ υ.2.2 28 (h + 5 + i) = nI d) → (∀ i, B + 4 ≤ i → i < h → υ.2.2 28 i = τ.2.2 28 i) → Tm (fun k => x_wholeOf k 9 N υ) (VO g B h t τ) := by
      intro N υ n2 hF2 u59 u56 u55 u86 uh u1 u3 uS uL hag
      refine Tm_suc (fun k => by rw [x_wholeOf]) ?_
      refine Tm_chk0 (by decide) ?_
      rw [n2, show nI h + 2 = nI (h + 2) from n_add (q := 2) (by omega)]
      refine Tm_chk (n_in (by omega) (by omega)) ?_
      rw [n_cl (p := h + 2) (by omega), u86, n_add1, show nI (m + 1) / 2 = nI ((m + 1) / 2) from n_div (q := 2) (by omega) (by decide) (by decide), show (1 : Int32) + nI ((m + 1) / 2) = nI (1 + (m + 1) / 2) from n_add (p := 1) (by omega)]
      show Tm (fun k => x_wholeOf k 10 N (mAr υ 28 (h + 2) (nI (1 + (m + 1) / 2)))) _
      refine Tm_suc (fun k => by rw [x_wholeOf]) ?_
      rw [n2]
      have u : ∀ j, j ≠ h + 2 → (mAr υ 28 (h + 2) (nI (1 + (m + 1) / 2))).2.2 28 j = υ.2.2 28 j := fun j hj => by rw [mAr_s, upd_other hj]
      have hG : GOn ((mAr υ 28 (h + 2) (nI (1 + (m + 1) / 2))).2.2 28) g h 2 (m + 1) (1 + (m + 1) / 2) 0 := by
        refine ⟨by rw [u h (by omega)]; exact uh, by rw [u (h + 1) (by omega)]; exact u1, by rw [mAr_s, upd_same], by rw [u (h + 3) (by omega)]; exact u3, by decide, by omega, by decide, by omega, fun _ => ⟨by omega, by omega, rfl, fun i hi => ?_, ?_⟩, fun z => absurd z (by decide), fun z => absurd z (by decide), fun z => absurd z (by decide)⟩
        · rw [u _ (by omega)]; exact uL i (by omega)
        · unfold SgOK; rw [u _ (by omega)]; exact uS
      exact Tm_some ⟨_, _, _, HS_good hPt.1 y (hF2.1 54 (by decide)) u55 (fun i h1 h2 => by rw [u i (by omega)]; exact hag i h1 h2) hG, FW_tr hF2 (FW_ar (Or.inl rfl)), u59.trans hPt.2.1, by unfold ErB; show ∃ e, υ.1 56 = nI e ∧ e ≤ 11; rw [u56]; exact hPt.2.2.2, fun y => by show ¬ υ.1 56 = 0; rw [u56]; exact y, h, rfl, Or.inr (Or.inr rfl)⟩
    have l7 : ∀ (j i : Nat) (N : Nat → Int32) (υ : MS), j + i = m → N 2 = nI h → N 3 = nI i → FW t τ υ → υ.1 59 = τ.1 59 → υ.1 56 = τ.1 56 → υ.1 55 = nI (h + 4 + (m + 1)) → υ.1 86 = nI m → υ.2.2 44 = τ.2.2 44 → υ.2.2 28 h = nI 2 → υ.2.2 28 (h + 1) = nI (m + 1) → υ.2.2 28 (h + 3) = nI 0 → SgOK (υ.2.2 28) h (m + 1) → (∀ k, k < i → ∃ d, d ≤ 65535 ∧ υ.2.2 28 (h + 5 + k) = nI d) → (∀ i, B + 4 ≤ i → i < h → υ.2.2 28 i = τ.2.2 28 i) → Tm (fun k => x_wholeOf k 7 N υ) (VO g B h t τ) := by
      intro j
      induction j with
      | zero =>
        intro i N υ hi n2 n3 hF2 u59 u56 u55 u86 u44 uh u1 u3 uS uL hag
        refine Tm_suc (fun k => by rw [x_wholeOf]) ?_
        rw [u86, n3]
        exact Tm_ite (fun _ => fin N υ n2 hF2 u59 u56 u55 u86 uh u1 u3 uS (fun k hk => uL k (by omega)) hag) (fun q => absurd ((n_le (by omega) (by omega)).mpr (by omega)) q)
      | succ j ih =>
        intro i N υ hi n2 n3 hF2 u59 u56 u55 u86 u44 uh u1 u3 uS uL hag
        refine Tm_suc (fun k => by rw [x_wholeOf]) ?_
        rw [u86, n3, n2, show nI h + 5 = nI (h + 5) from n_add (q := 5) (by omega), n_add (by omega)]
        refine Tm_ite (fun q => absurd ((n_le (by omega) (by omega)).mp q) (by omega)) (fun _ => ?_)
        refine Tm_chk (n_in (by omega) (by omega)) ?_
        refine Tm_chk (n_in (by omega) (by omega)) ?_
        rw [n_cl (p := h + 5 + i) (by omega), n_cl (p := i) (by omega), u44, t44]
        show Tm (fun k => x_wholeOf k 8 N (mAr υ 28 (h + 5 + i) (σ.2.2 44 i))) _
        refine Tm_suc (fun k => by rw [x_wholeOf]) ?_
        have u : ∀ j, j ≠ h + 5 + i → (mAr υ 28 (h + 5 + i) (σ.2.2 44 i)).2.2 28 j = υ.2.2 28 j := fun j hj => by rw [mAr_s, upd_other hj]
        refine ih (i + 1) _ _ (by omega) n2 (by show N 3 + 1 = _; rw [n3, n_add1]) (FW_tr hF2 (FW_ar (Or.inl rfl))) u59 u56 u55 u86 (by rw [mAr_o (by decide)]; exact u44) (by rw [u _ (by omega)]; exact uh) (by rw [u _ (by omega)]; exact u1) (by rw [u _ (by omega)]; exact u3) (by unfold SgOK; rw [u _ (by omega)]; exact uS) (fun k hk => ?_) (fun i h1 h2 => by rw [u _ (by omega)]; exact hag i h1 h2)
        by_cases e : k = i
        · rw [e, mAr_s, upd_same]; exact hLM i (by omega)
        · rw [u _ (by omega)]; exact uL k (by omega)
    -- the sign
    have l5 : ∀ (N : Nat → Int32), N 2 = nI h → N 101 = nI (h + 4) → ((N 100 = 1 ∨ N 100 = -1) ∨ (m + 1 = 1 ∧ N 100 = 0)) → Tm (fun k => x_wholeOf k 5 N (mMk τ h 2 (m + 1))) (VO g B h t τ) := by
      intro N n2 n101 n100
      refine Tm_suc (fun k => by rw [x_wholeOf]) ?_
      rw [n101]
      refine Tm_chk (n_in (by omega) (by omega)) ?_
      rw [n_cl (p := h + 4) (by omega)]
      show Tm (fun k => x_wholeOf k 6 N (mAr (mMk τ h 2 (m + 1)) 28 (h + 4) (N 100))) _
      refine Tm_suc (fun k => by rw [x_wholeOf]) ?_
      have u : ∀ j, j ≠ h + 4 → (mAr (mMk τ h 2 (m + 1)) 28 (h + 4) (N 100)).2.2 28 j = (mMk τ h 2 (m + 1)).2.2 28 j := fun j hj => by rw [mAr_s, upd_other hj]
      refine l7 m 0 _ _ (by omega) n2 rfl (FW_tr FW_mk (FW_ar (Or.inl rfl))) (show (mMk τ h 2 (m + 1)).1 59 = τ.1 59 from mMk_s (by decide)) (show (mMk τ h 2 (m + 1)).1 56 = τ.1 56 from mMk_s (by decide)) ?_ (show (mMk τ h 2 (m + 1)).1 86 = nI m from (mMk_s (by decide)).trans t86) ?_ ?_ ?_ ?_ ?_ (fun k hk => absurd hk (Nat.not_lt_zero k)) (fun i h1 h2 => ?_)
      · show nI (h + (4 + (m + 1))) = _
        rw [Nat.add_assoc]
      · rw [mAr_o (by decide), mMk_o (by decide)]
      · rw [u h (by omega), mMk_28, upd_other (by omega), upd_other (by omega), upd_other (by omega), upd_same]; rfl
      · rw [u (h + 1) (by omega), mMk_28, upd_other (by omega), upd_other (by omega), upd_same]
      · rw [u (h + 3) (by omega), mMk_28, upd_same]; rfl
      · unfold SgOK; rw [mAr_s, upd_same]; exact n100
      · rw [u i (by omega), mMk_28, upd_other (by omega), upd_other (by omega), upd_other (by omega), upd_other (by omega)]
    refine Tm_suc (fun k => by rw [x_wholeOf]) ?_
    show Tm (fun k => if (mMk τ h 2 (m + 1)).1 86 = 0 then x_wholeOf k 5 (upd (upd (upd L 2 (nI h)) 100 0) 101 (nI h + 4)) (mMk τ h 2 (m + 1)) else x_wholeOf k 4 (upd (upd L 2 (nI h)) 100 (nI h + 4)) (mMk τ h 2 (m + 1))) _
    have e4 : nI h + 4 = nI (h + 4) := n_add (q := 4) (by omega)
    refine Tm_ite (fun w0 => ?_) (fun w0 => ?_)
    · refine l5 _ rfl e4 (Or.inr ⟨?_, rfl⟩)
      have w0 : (mMk τ h 2 (m + 1)).1 86 = nI 0 := w0
      rw [mMk_s (by decide), t86] at w0
      have := (n_eq (by omega) (by decide)).mp w0
      omega
    · refine Tm_suc (fun k => by rw [x_wholeOf]) ?_
      refine l5 _ rfl e4 (Or.inl (hsm.resolve_right (fun q => w0 ?_)))
      rw [mMk_s (by decide), t86, q]; rfl
  -- noughts at the top
  have l0 : ∀ (m : Nat) (τ : MS), m ≤ c → NF σ τ → τ.1 86 = nI m → τ.2.2 44 = σ.2.2 44 → Tm (fun k => x_wholeOf k 0 L τ) (VO g B h t σ) := by
    intro m
    induction m with
    | zero =>
      intro τ hm hF t86 t44
      refine Tm_suc (fun k => by rw [x_wholeOf]) ?_
      rw [t86]
      exact Tm_ite (fun _ => l1 0 τ hm hF t86 t44 (Or.inr rfl)) (fun q => absurd ((n_le0 (by decide)).mpr rfl) q)
    | succ m ih =>
      intro τ hm hF t86 t44
      refine Tm_suc (fun k => by rw [x_wholeOf]) ?_
      rw [t86, show nI (m + 1) - 1 = nI m from n_sub (p := m + 1) (q := 1) (by omega) (by omega)]
      refine Tm_ite (fun q => absurd ((n_le0 (by omega)).mp q) (by omega)) (fun _ => ?_)
      refine Tm_chk (n_in (by omega) (by omega)) ?_
      refine Tm_ite (fun _ => ?_) (fun w0 => l1 (m + 1) τ hm hF t86 t44 (Or.inl (hsg.resolve_right (fun q => w0 (by rw [n_cl (by omega), t44]; exact q m (by omega))))))
      exact ih (mSc τ 86 (nI m)) (by omega) (NF_tr hF (NF_sc (by decide))) rfl t44
  exact l0 c σ (Nat.le_refl _) NF_rf h86 rfl
end WHM
