/-! Strings are made (reference; written by strg.py). -/
section STR
variable {g : Nat → Prop} {l : List Nat} {B h t : Nat} {σ : MS}
theorem n_div {p q : Nat} (hp : p < 2147483648) (hq : 0 < q) (hq2 : q < 2147483648) : nI p / nI q = nI (p / q) := by
  rw [i_eq, Int32.toInt_div, n_int hp, n_int hq2, n_int (Nat.lt_of_le_of_lt (Nat.div_le_self p q) hp)]
  rw [Int.tdiv_eq_ediv_of_nonneg (by omega)]
  have h1 : ((p : Int) / (q : Int)) = ((p / q : Nat) : Int) := (Int.natCast_ediv p q).symm
  have h2 : p / q ≤ p := Nat.div_le_self p q
  rw [h1]
  generalize p / q = z at h2
  exact Int.bmod_eq_of_le (by omega) (by omega)
theorem n_str {n : Nat} (h : n < 2147483000) : (1 : Int32) + (nI n + 3) / 4 = nI (1 + (n + 3) / 4) := by
  rw [show nI n + 3 = nI (n + 3) from n_add (q := 3) (by omega), show nI (n + 3) / 4 = nI ((n + 3) / 4) from n_div (q := 4) (by omega) (by decide) (by decide)]
  exact n_add (p := 1) (by omega)
theorem s_stringOf51 (hP : VP g l B h t σ) {f n : Nat} (hn : n ≤ 60000) (hf : 1 + (n + 3) / 4 ≤ 1000 → f + n ≤ 8200) {L : Nat → Int32} (h2 : L 2 = nI f) (h3 : L 3 = nI n) : Tm (fun k => x_stringOf__51 k 0 L σ) (VO g B h t σ) := by
  have hb := HS_b hP.1
  have hB := hP.1.2.1
  have hdv : (1 : Int32) + (nI n + 3) / 4 = nI (1 + (n + 3) / 4) := n_str (by omega)
  refine Tm_suc (fun k => by rw [x_stringOf__51]) ?_
  refine Tm_chk0 (by decide) ?_
  rw [h3, hdv]
  refine Tm_ite (fun c => ?_) (fun c => ?_)
  case refine_2 =>
    refine Tm_ob (s_fail _ σ) (fun r hr => ?_)
    rw [hr]
    exact Tm_some (VO_er hP (e := 5) (by decide))
  have c := (n_le (q := 1000) (by omega) (by decide)).mp c
  have hf := hf c
  refine Tm_suc (fun k => by rw [x_stringOf__51]) ?_
  refine Tm_ob (s_make hP.1 (n := n) (by omega) (by exact h3)) (fun r hr => ?_)
  rcases hr with ⟨z, hr⟩ | ⟨z, hr⟩
  · -- no room
    rw [hr]
    have l4 : ∀ N : Nat → Int32, N 3 = nI n → N 4 = nI 0 → Tm (fun k => x_stringOf__51 k 4 N (mEr σ 5)) (VO g B h t σ) := fun N n3 n4 => by
      refine Tm_suc (fun k => by rw [x_stringOf__51]) ?_
      refine Tm_chk0 (by decide) ?_
      rw [n4, show nI 0 + 2 = nI 2 from n_add (p := 0) (q := 2) (by decide)]
      refine Tm_chk (n_in (by decide) (by decide)) ?_
      rw [n_cl (p := 2) (by decide), n3, hdv]
      show Tm (fun k => x_stringOf__51 k 5 N (mAr (mEr σ 5) 28 2 (nI (1 + (n + 3) / 4)))) _
      refine Tm_suc (fun k => by rw [x_stringOf__51]) ?_
      rw [n4]
      obtain ⟨g', l', h', e1, e2, e3, e4, e5, e6⟩ := VO_er hP (e := 5) (by decide)
      have lo := HS_lo (i := 2) (x := nI (1 + (n + 3) / 4)) (HS_er hP.1 5) (by decide)
      exact Tm_some ⟨g, l, h, ⟨lo.1, fun _ z => z, Nat.le_refl _, fun i h1 h2 => lo.2.2.2 i h1 h2⟩, FW_tr FW_er (FW_ar (Or.inl rfl)), e3, e4, e5, Vd_0⟩
    refine Tm_suc (fun k => by rw [x_stringOf__51]) ?_
    refine Tm_ite (fun _ => l4 _ h3 rfl) (fun _ => ?_)
    exact Tm_ite (fun y => absurd y (mEr_e (by decide))) (fun _ => l4 _ h3 rfl)
  · rw [hr]
    -- the end
    have l4 : ∀ (N : Nat → Int32) (τ : MS), N 3 = nI n → N 4 = nI h → FW t σ τ → τ.1 59 = σ.1 59 → τ.1 56 = σ.1 56 → τ.1 55 = nI (h + 4 + n) → τ.2.2 28 h = nI 4 → τ.2.2 28 (h + 1) = nI n → τ.2.2 28 (h + 3) = nI 0 → (∀ i, B + 4 ≤ i → i < h → τ.2.2 28 i = σ.2.2 28 i) → Tm (fun k => x_stringOf__51 k 4 N τ) (VO g B h t σ) := by
      intro N τ n3 n4 hF t59 t56 t55 th t1 t3 hag
      refine Tm_suc (fun k => by rw [x_stringOf__51]) ?_
      refine Tm_chk0 (by decide) ?_
      rw [n4, show nI h + 2 = nI (h + 2) from n_add (q := 2) (by omega)]
      refine Tm_chk (n_in (by omega) (by omega)) ?_
      rw [n_cl (p := h + 2) (by omega), n3, hdv]
      show Tm (fun k => x_stringOf__51 k 5 N (mAr τ 28 (h + 2) (nI (1 + (n + 3) / 4)))) _
      refine Tm_suc (fun k => by rw [x_stringOf__51]) ?_
      rw [n4]
      have u : ∀ j, j ≠ h + 2 → (mAr τ 28 (h + 2) (nI (1 + (n + 3) / 4))).2.2 28 j = τ.2.2 28 j := fun j hj => by rw [mAr_s, upd_other hj]
      have hG : GOn ((mAr τ 28 (h + 2) (nI (1 + (n + 3) / 4))).2.2 28) g h 4 n (1 + (n + 3) / 4) 0 := by
        refine ⟨by rw [u h (by omega)]; exact th, by rw [u (h + 1) (by omega)]; exact t1, by rw [mAr_s, upd_same], by rw [u (h + 3) (by omega)]; exact t3, by decide, by omega, by decide, by omega, fun z => absurd z (by decide), fun z => absurd z (by decide), fun _ => rfl, fun z => absurd z (by decide)⟩
      exact Tm_some ⟨_, _, _, HS_good hP.1 z (hF.1 54 (by decide)) t55 (fun i h1 h2 => by rw [u i (by omega)]; exact hag i h1 h2) hG, FW_tr hF (FW_ar (Or.inl rfl)), t59.trans hP.2.1, by unfold ErB; show ∃ e, τ.1 56 = nI e ∧ e ≤ 11; rw [t56]; exact hP.2.2.2, fun y => by show ¬ τ.1 56 = 0; rw [t56]; exact y, h, rfl, Or.inr (Or.inr rfl)⟩
    -- the bytes
    have l2 : ∀ (j i : Nat) (N : Nat → Int32) (τ : MS), j + i = n → N 2 = nI f → N 3 = nI n → N 4 = nI h → N 5 = nI i → FW t σ τ → τ.1 59 = σ.1 59 → τ.1 56 = σ.1 56 → τ.1 55 = nI (h + 4 + n) → τ.2.2 28 h = nI 4 → τ.2.2 28 (h + 1) = nI n → τ.2.2 28 (h + 3) = nI 0 → (∀ i, B + 4 ≤ i → i < h → τ.2.2 28 i = σ.2.2 28 i) → Tm (fun k => x_stringOf__51 k 2 N τ) (VO g B h t σ) := by
      intro j
      induction j with
      | zero =>
        intro i N τ hi n2 n3 n4 n5 hF t59 t56 t55 th t1 t3 hag
        refine Tm_suc (fun k => by rw [x_stringOf__51]) ?_
        rw [n3, n5]
        exact Tm_ite (fun _ => l4 N τ n3 n4 hF t59 t56 t55 th t1 t3 hag) (fun y => absurd ((n_le (by omega) (by omega)).mpr (by omega)) y)
      | succ j ih =>
        intro i N τ hi n2 n3 n4 n5 hF t59 t56 t55 th t1 t3 hag
        refine Tm_suc (fun k => by rw [x_stringOf__51]) ?_
        rw [n3, n5, n2, n4]
        refine Tm_ite (fun y => absurd ((n_le (by omega) (by omega)).mp y) (by omega)) (fun _ => ?_)
        refine Tm_ite (fun _ => ?_) (fun _ => l4 N τ n3 n4 hF t59 t56 t55 th t1 t3 hag)
        rw [n_add (by omega), show nI h + 4 = nI (h + 4) from n_add (q := 4) (by omega), n_add (by omega)]
        refine Tm_chk (n_in (by omega) (by omega)) ?_
        refine Tm_chk (n_in (by omega) (by omega)) ?_
        rw [n_cl (p := h + 4 + i) (by omega)]
        generalize τ.2.2 51 (nI (f + i)).toNatClampNeg = x
        show Tm (fun k => x_stringOf__51 k 3 N (mAr τ 28 (h + 4 + i) x)) _
        refine Tm_suc (fun k => by rw [x_stringOf__51]) ?_
        have u : ∀ j, j ≠ h + 4 + i → (mAr τ 28 (h + 4 + i) x).2.2 28 j = τ.2.2 28 j := fun j hj => by rw [mAr_s, upd_other hj]
        exact ih (i + 1) _ _ (by omega) n2 n3 n4 (by show N 5 + 1 = _; rw [n5, n_add1]) (FW_tr hF (FW_ar (Or.inl rfl))) t59 t56 t55 (by rw [u _ (by omega)]; exact th) (by rw [u _ (by omega)]; exact t1) (by rw [u _ (by omega)]; exact t3) (fun i h1 h2 => by rw [u _ (by omega)]; exact hag i h1 h2)
    refine l2 n 0 _ _ (by omega) h2 h3 rfl rfl FW_mk (mMk_s (by decide)) (mMk_s (by decide)) ?_ ?_ ?_ ?_ (fun i h1 h2 => ?_)
    · show nI (h + (4 + n)) = _
      rw [Nat.add_assoc]
    · rw [mMk_28, upd_other (by omega), upd_other (by omega), upd_other (by omega), upd_same]; rfl
    · rw [mMk_28, upd_other (by omega), upd_other (by omega), upd_same]
    · rw [mMk_28, upd_same]; rfl
    · rw [mMk_28, upd_other (by omega), upd_other (by omega), upd_other (by omega), upd_other (by omega)]
theorem s_stringOf48 (hP : VP g l B h t σ) {f n : Nat} (hn : n ≤ 60000) (hf : 1 + (n + 3) / 4 ≤ 1000 → f + n ≤ 12000) {L : Nat → Int32} (h2 : L 2 = nI f) (h3 : L 3 = nI n) : Tm (fun k => x_stringOf__48 k 0 L σ) (VO g B h t σ) := by
  have hb := HS_b hP.1
  have hB := hP.1.2.1
  have hdv : (1 : Int32) + (nI n + 3) / 4 = nI (1 + (n + 3) / 4) := n_str (by omega)
  refine Tm_suc (fun k => by rw [x_stringOf__48]) ?_
  refine Tm_chk0 (by decide) ?_
  rw [h3, hdv]
  refine Tm_ite (fun c => ?_) (fun c => ?_)
  case refine_2 =>
    refine Tm_ob (s_fail _ σ) (fun r hr => ?_)
    rw [hr]
    exact Tm_some (VO_er hP (e := 5) (by decide))
  have c := (n_le (q := 1000) (by omega) (by decide)).mp c
  have hf := hf c
  refine Tm_suc (fun k => by rw [x_stringOf__48]) ?_
  refine Tm_ob (s_make hP.1 (n := n) (by omega) (by exact h3)) (fun r hr => ?_)
  rcases hr with ⟨z, hr⟩ | ⟨z, hr⟩
  · -- no room
    rw [hr]
    have l4 : ∀ N : Nat → Int32, N 3 = nI n → N 4 = nI 0 → Tm (fun k => x_stringOf__48 k 4 N (mEr σ 5)) (VO g B h t σ) := fun N n3 n4 => by
      refine Tm_suc (fun k => by rw [x_stringOf__48]) ?_
      refine Tm_chk0 (by decide) ?_
      rw [n4, show nI 0 + 2 = nI 2 from n_add (p := 0) (q := 2) (by decide)]
      refine Tm_chk (n_in (by decide) (by decide)) ?_
      rw [n_cl (p := 2) (by decide), n3, hdv]
      show Tm (fun k => x_stringOf__48 k 5 N (mAr (mEr σ 5) 28 2 (nI (1 + (n + 3) / 4)))) _
      refine Tm_suc (fun k => by rw [x_stringOf__48]) ?_
      rw [n4]
      obtain ⟨g', l', h', e1, e2, e3, e4, e5, e6⟩ := VO_er hP (e := 5) (by decide)
      have lo := HS_lo (i := 2) (x := nI (1 + (n + 3) / 4)) (HS_er hP.1 5) (by decide)
      exact Tm_some ⟨g, l, h, ⟨lo.1, fun _ z => z, Nat.le_refl _, fun i h1 h2 => lo.2.2.2 i h1 h2⟩, FW_tr FW_er (FW_ar (Or.inl rfl)), e3, e4, e5, Vd_0⟩
    refine Tm_suc (fun k => by rw [x_stringOf__48]) ?_
    refine Tm_ite (fun _ => l4 _ h3 rfl) (fun _ => ?_)
    exact Tm_ite (fun y => absurd y (mEr_e (by decide))) (fun _ => l4 _ h3 rfl)
  · rw [hr]
    -- the end
    have l4 : ∀ (N : Nat → Int32) (τ : MS), N 3 = nI n → N 4 = nI h → FW t σ τ → τ.1 59 = σ.1 59 → τ.1 56 = σ.1 56 → τ.1 55 = nI (h + 4 + n) → τ.2.2 28 h = nI 4 → τ.2.2 28 (h + 1) = nI n → τ.2.2 28 (h + 3) = nI 0 → (∀ i, B + 4 ≤ i → i < h → τ.2.2 28 i = σ.2.2 28 i) → Tm (fun k => x_stringOf__48 k 4 N τ) (VO g B h t σ) := by
      intro N τ n3 n4 hF t59 t56 t55 th t1 t3 hag
      refine Tm_suc (fun k => by rw [x_stringOf__48]) ?_
      refine Tm_chk0 (by decide) ?_
      rw [n4, show nI h + 2 = nI (h + 2) from n_add (q := 2) (by omega)]
      refine Tm_chk (n_in (by omega) (by omega)) ?_
      rw [n_cl (p := h + 2) (by omega), n3, hdv]
      show Tm (fun k => x_stringOf__48 k 5 N (mAr τ 28 (h + 2) (nI (1 + (n + 3) / 4)))) _
      refine Tm_suc (fun k => by rw [x_stringOf__48]) ?_
      rw [n4]
      have u : ∀ j, j ≠ h + 2 → (mAr τ 28 (h + 2) (nI (1 + (n + 3) / 4))).2.2 28 j = τ.2.2 28 j := fun j hj => by rw [mAr_s, upd_other hj]
      have hG : GOn ((mAr τ 28 (h + 2) (nI (1 + (n + 3) / 4))).2.2 28) g h 4 n (1 + (n + 3) / 4) 0 := by
        refine ⟨by rw [u h (by omega)]; exact th, by rw [u (h + 1) (by omega)]; exact t1, by rw [mAr_s, upd_same], by rw [u (h + 3) (by omega)]; exact t3, by decide, by omega, by decide, by omega, fun z => absurd z (by decide), fun z => absurd z (by decide), fun _ => rfl, fun z => absurd z (by decide)⟩
      exact Tm_some ⟨_, _, _, HS_good hP.1 z (hF.1 54 (by decide)) t55 (fun i h1 h2 => by rw [u i (by omega)]; exact hag i h1 h2) hG, FW_tr hF (FW_ar (Or.inl rfl)), t59.trans hP.2.1, by unfold ErB; show ∃ e, τ.1 56 = nI e ∧ e ≤ 11; rw [t56]; exact hP.2.2.2, fun y => by show ¬ τ.1 56 = 0; rw [t56]; exact y, h, rfl, Or.inr (Or.inr rfl)⟩
    -- the bytes
    have l2 : ∀ (j i : Nat) (N : Nat → Int32) (τ : MS), j + i = n → N 2 = nI f → N 3 = nI n → N 4 = nI h → N 5 = nI i → FW t σ τ → τ.1 59 = σ.1 59 → τ.1 56 = σ.1 56 → τ.1 55 = nI (h + 4 + n) → τ.2.2 28 h = nI 4 → τ.2.2 28 (h + 1) = nI n → τ.2.2 28 (h + 3) = nI 0 → (∀ i, B + 4 ≤ i → i < h → τ.2.2 28 i = σ.2.2 28 i) → Tm (fun k => x_stringOf__48 k 2 N τ) (VO g B h t σ) := by
      intro j
      induction j with
      | zero =>
        intro i N τ hi n2 n3 n4 n5 hF t59 t56 t55 th t1 t3 hag
        refine Tm_suc (fun k => by rw [x_stringOf__48]) ?_
        rw [n3, n5]
        exact Tm_ite (fun _ => l4 N τ n3 n4 hF t59 t56 t55 th t1 t3 hag) (fun y => absurd ((n_le (by omega) (by omega)).mpr (by omega)) y)
      | succ j ih =>
        intro i N τ hi n2 n3 n4 n5 hF t59 t56 t55 th t1 t3 hag
        refine Tm_suc (fun k => by rw [x_stringOf__48]) ?_
        rw [n3, n5, n2, n4]
        refine Tm_ite (fun y => absurd ((n_le (by omega) (by omega)).mp y) (by omega)) (fun _ => ?_)
        refine Tm_ite (fun _ => ?_) (fun _ => l4 N τ n3 n4 hF t59 t56 t55 th t1 t3 hag)
        rw [n_add (by omega), show nI h + 4 = nI (h + 4) from n_add (q := 4) (by omega), n_add (by omega)]
        refine Tm_chk (n_in (by omega) (by omega)) ?_
        refine Tm_chk (n_in (by omega) (by omega)) ?_
        rw [n_cl (p := h + 4 + i) (by omega)]
        generalize τ.2.2 48 (nI (f + i)).toNatClampNeg = x
        show Tm (fun k => x_stringOf__48 k 3 N (mAr τ 28 (h + 4 + i) x)) _
        refine Tm_suc (fun k => by rw [x_stringOf__48]) ?_
        have u : ∀ j, j ≠ h + 4 + i → (mAr τ 28 (h + 4 + i) x).2.2 28 j = τ.2.2 28 j := fun j hj => by rw [mAr_s, upd_other hj]
        exact ih (i + 1) _ _ (by omega) n2 n3 n4 (by show N 5 + 1 = _; rw [n5, n_add1]) (FW_tr hF (FW_ar (Or.inl rfl))) t59 t56 t55 (by rw [u _ (by omega)]; exact th) (by rw [u _ (by omega)]; exact t1) (by rw [u _ (by omega)]; exact t3) (fun i h1 h2 => by rw [u _ (by omega)]; exact hag i h1 h2)
    refine l2 n 0 _ _ (by omega) h2 h3 rfl rfl FW_mk (mMk_s (by decide)) (mMk_s (by decide)) ?_ ?_ ?_ ?_ (fun i h1 h2 => ?_)
    · show nI (h + (4 + n)) = _
      rw [Nat.add_assoc]
    · rw [mMk_28, upd_other (by omega), upd_other (by omega), upd_other (by omega), upd_same]; rfl
    · rw [mMk_28, upd_other (by omega), upd_other (by omega), upd_same]
    · rw [mMk_28, upd_same]; rfl
    · rw [mMk_28, upd_other (by omega), upd_other (by omega), upd_other (by omega), upd_other (by omega)]
theorem s_stringOf28 (hP : VP g l B h t σ) {f n : Nat} (hn : n ≤ 60000) (hf : 1 + (n + 3) / 4 ≤ 1000 → f + n ≤ 1740000) {L : Nat → Int32} (h2 : L 2 = nI f) (h3 : L 3 = nI n) : Tm (fun k => x_stringOf__28 k 0 L σ) (VO g B h t σ) := by
  have hb := HS_b hP.1
  have hB := hP.1.2.1
  have hdv : (1 : Int32) + (nI n + 3) / 4 = nI (1 + (n + 3) / 4) := n_str (by omega)
  refine Tm_suc (fun k => by rw [x_stringOf__28]) ?_
  refine Tm_chk0 (by decide) ?_
  rw [h3, hdv]
  refine Tm_ite (fun c => ?_) (fun c => ?_)
  case refine_2 =>
    refine Tm_ob (s_fail _ σ) (fun r hr => ?_)
    rw [hr]
    exact Tm_some (VO_er hP (e := 5) (by decide))
  have c := (n_le (q := 1000) (by omega) (by decide)).mp c
  have hf := hf c
  refine Tm_suc (fun k => by rw [x_stringOf__28]) ?_
  refine Tm_ob (s_make hP.1 (n := n) (by omega) (by exact h3)) (fun r hr => ?_)
  rcases hr with ⟨z, hr⟩ | ⟨z, hr⟩
  · -- no room
    rw [hr]
    have l4 : ∀ N : Nat → Int32, N 3 = nI n → N 4 = nI 0 → Tm (fun k => x_stringOf__28 k 4 N (mEr σ 5)) (VO g B h t σ) := fun N n3 n4 => by
      refine Tm_suc (fun k => by rw [x_stringOf__28]) ?_
      refine Tm_chk0 (by decide) ?_
      rw [n4, show nI 0 + 2 = nI 2 from n_add (p := 0) (q := 2) (by decide)]
      refine Tm_chk (n_in (by decide) (by decide)) ?_
      rw [n_cl (p := 2) (by decide), n3, hdv]
      show Tm (fun k => x_stringOf__28 k 5 N (mAr (mEr σ 5) 28 2 (nI (1 + (n + 3) / 4)))) _
      refine Tm_suc (fun k => by rw [x_stringOf__28]) ?_
      rw [n4]
      obtain ⟨g', l', h', e1, e2, e3, e4, e5, e6⟩ := VO_er hP (e := 5) (by decide)
      have lo := HS_lo (i := 2) (x := nI (1 + (n + 3) / 4)) (HS_er hP.1 5) (by decide)
      exact Tm_some ⟨g, l, h, ⟨lo.1, fun _ z => z, Nat.le_refl _, fun i h1 h2 => lo.2.2.2 i h1 h2⟩, FW_tr FW_er (FW_ar (Or.inl rfl)), e3, e4, e5, Vd_0⟩
    refine Tm_suc (fun k => by rw [x_stringOf__28]) ?_
    refine Tm_ite (fun _ => l4 _ h3 rfl) (fun _ => ?_)
    exact Tm_ite (fun y => absurd y (mEr_e (by decide))) (fun _ => l4 _ h3 rfl)
  · rw [hr]
    -- the end
    have l4 : ∀ (N : Nat → Int32) (τ : MS), N 3 = nI n → N 4 = nI h → FW t σ τ → τ.1 59 = σ.1 59 → τ.1 56 = σ.1 56 → τ.1 55 = nI (h + 4 + n) → τ.2.2 28 h = nI 4 → τ.2.2 28 (h + 1) = nI n → τ.2.2 28 (h + 3) = nI 0 → (∀ i, B + 4 ≤ i → i < h → τ.2.2 28 i = σ.2.2 28 i) → Tm (fun k => x_stringOf__28 k 4 N τ) (VO g B h t σ) := by
      intro N τ n3 n4 hF t59 t56 t55 th t1 t3 hag
      refine Tm_suc (fun k => by rw [x_stringOf__28]) ?_
      refine Tm_chk0 (by decide) ?_
      rw [n4, show nI h + 2 = nI (h + 2) from n_add (q := 2) (by omega)]
      refine Tm_chk (n_in (by omega) (by omega)) ?_
      rw [n_cl (p := h + 2) (by omega), n3, hdv]
      show Tm (fun k => x_stringOf__28 k 5 N (mAr τ 28 (h + 2) (nI (1 + (n + 3) / 4)))) _
      refine Tm_suc (fun k => by rw [x_stringOf__28]) ?_
      rw [n4]
      have u : ∀ j, j ≠ h + 2 → (mAr τ 28 (h + 2) (nI (1 + (n + 3) / 4))).2.2 28 j = τ.2.2 28 j := fun j hj => by rw [mAr_s, upd_other hj]
      have hG : GOn ((mAr τ 28 (h + 2) (nI (1 + (n + 3) / 4))).2.2 28) g h 4 n (1 + (n + 3) / 4) 0 := by
        refine ⟨by rw [u h (by omega)]; exact th, by rw [u (h + 1) (by omega)]; exact t1, by rw [mAr_s, upd_same], by rw [u (h + 3) (by omega)]; exact t3, by decide, by omega, by decide, by omega, fun z => absurd z (by decide), fun z => absurd z (by decide), fun _ => rfl, fun z => absurd z (by decide)⟩
      exact Tm_some ⟨_, _, _, HS_good hP.1 z (hF.1 54 (by decide)) t55 (fun i h1 h2 => by rw [u i (by omega)]; exact hag i h1 h2) hG, FW_tr hF (FW_ar (Or.inl rfl)), t59.trans hP.2.1, by unfold ErB; show ∃ e, τ.1 56 = nI e ∧ e ≤ 11; rw [t56]; exact hP.2.2.2, fun y => by show ¬ τ.1 56 = 0; rw [t56]; exact y, h, rfl, Or.inr (Or.inr rfl)⟩
    -- the bytes
    have l2 : ∀ (j i : Nat) (N : Nat → Int32) (τ : MS), j + i = n → N 2 = nI f → N 3 = nI n → N 4 = nI h → N 5 = nI i → FW t σ τ → τ.1 59 = σ.1 59 → τ.1 56 = σ.1 56 → τ.1 55 = nI (h + 4 + n) → τ.2.2 28 h = nI 4 → τ.2.2 28 (h + 1) = nI n → τ.2.2 28 (h + 3) = nI 0 → (∀ i, B + 4 ≤ i → i < h → τ.2.2 28 i = σ.2.2 28 i) → Tm (fun k => x_stringOf__28 k 2 N τ) (VO g B h t σ) := by
      intro j
      induction j with
      | zero =>
        intro i N τ hi n2 n3 n4 n5 hF t59 t56 t55 th t1 t3 hag
        refine Tm_suc (fun k => by rw [x_stringOf__28]) ?_
        rw [n3, n5]
        exact Tm_ite (fun _ => l4 N τ n3 n4 hF t59 t56 t55 th t1 t3 hag) (fun y => absurd ((n_le (by omega) (by omega)).mpr (by omega)) y)
      | succ j ih =>
        intro i N τ hi n2 n3 n4 n5 hF t59 t56 t55 th t1 t3 hag
        refine Tm_suc (fun k => by rw [x_stringOf__28]) ?_
        rw [n3, n5, n2, n4]
        refine Tm_ite (fun y => absurd ((n_le (by omega) (by omega)).mp y) (by omega)) (fun _ => ?_)
        refine Tm_ite (fun _ => ?_) (fun _ => l4 N τ n3 n4 hF t59 t56 t55 th t1 t3 hag)
        rw [n_add (by omega), show nI h + 4 = nI (h + 4) from n_add (q := 4) (by omega), n_add (by omega)]
        refine Tm_chk (n_in (by omega) (by omega)) ?_
        refine Tm_chk (n_in (by omega) (by omega)) ?_
        rw [n_cl (p := h + 4 + i) (by omega)]
        generalize τ.2.2 28 (nI (f + i)).toNatClampNeg = x
        show Tm (fun k => x_stringOf__28 k 3 N (mAr τ 28 (h + 4 + i) x)) _
        refine Tm_suc (fun k => by rw [x_stringOf__28]) ?_
        have u : ∀ j, j ≠ h + 4 + i → (mAr τ 28 (h + 4 + i) x).2.2 28 j = τ.2.2 28 j := fun j hj => by rw [mAr_s, upd_other hj]
        exact ih (i + 1) _ _ (by omega) n2 n3 n4 (by show N 5 + 1 = _; rw [n5, n_add1]) (FW_tr hF (FW_ar (Or.inl rfl))) t59 t56 t55 (by rw [u _ (by omega)]; exact th) (by rw [u _ (by omega)]; exact t1) (by rw [u _ (by omega)]; exact t3) (fun i h1 h2 => by rw [u _ (by omega)]; exact hag i h1 h2)
    refine l2 n 0 _ _ (by omega) h2 h3 rfl rfl FW_mk (mMk_s (by decide)) (mMk_s (by decide)) ?_ ?_ ?_ ?_ (fun i h1 h2 => ?_)
    · show nI (h + (4 + n)) = _
      rw [Nat.add_assoc]
    · rw [mMk_28, upd_other (by omega), upd_other (by omega), upd_other (by omega), upd_same]; rfl
    · rw [mMk_28, upd_other (by omega), upd_other (by omega), upd_same]
    · rw [mMk_28, upd_same]; rfl
    · rw [mMk_28, upd_other (by omega), upd_other (by omega), upd_other (by omega), upd_other (by omega)]
theorem s_stringOf12 (hP : VP g l B h t σ) {f n : Nat} (hn : n ≤ 60000) (hf : 1 + (n + 3) / 4 ≤ 1000 → f + n ≤ 70000) {L : Nat → Int32} (h2 : L 2 = nI f) (h3 : L 3 = nI n) : Tm (fun k => x_stringOf__12 k 0 L σ) (VO g B h t σ) := by
  have hb := HS_b hP.1
  have hB := hP.1.2.1
  have hdv : (1 : Int32) + (nI n + 3) / 4 = nI (1 + (n + 3) / 4) := n_str (by omega)
  refine Tm_suc (fun k => by rw [x_stringOf__12]) ?_
  refine Tm_chk0 (by decide) ?_
  rw [h3, hdv]
  refine Tm_ite (fun c => ?_) (fun c => ?_)
  case refine_2 =>
    refine Tm_ob (s_fail _ σ) (fun r hr => ?_)
    rw [hr]
    exact Tm_some (VO_er hP (e := 5) (by decide))
  have c := (n_le (q := 1000) (by omega) (by decide)).mp c
  have hf := hf c
  refine Tm_suc (fun k => by rw [x_stringOf__12]) ?_
  refine Tm_ob (s_make hP.1 (n := n) (by omega) (by exact h3)) (fun r hr => ?_)
  rcases hr with ⟨z, hr⟩ | ⟨z, hr⟩
  · -- no room
    rw [hr]
    have l4 : ∀ N : Nat → Int32, N 3 = nI n → N 4 = nI 0 → Tm (fun k => x_stringOf__12 k 4 N (mEr σ 5)) (VO g B h t σ) := fun N n3 n4 => by
      refine Tm_suc (fun k => by rw [x_stringOf__12]) ?_
      refine Tm_chk0 (by decide) ?_
      rw [n4, show nI 0 + 2 = nI 2 from n_add (p := 0) (q := 2) (by decide)]
      refine Tm_chk (n_in (by decide) (by decide)) ?_
      rw [n_cl (p := 2) (by decide), n3, hdv]
      show Tm (fun k => x_stringOf__12 k 5 N (mAr (mEr σ 5) 28 2 (nI (1 + (n + 3) / 4)))) _
      refine Tm_suc (fun k => by rw [x_stringOf__12]) ?_
      rw [n4]
      obtain ⟨g', l', h', e1, e2, e3, e4, e5, e6⟩ := VO_er hP (e := 5) (by decide)
      have lo := HS_lo (i := 2) (x := nI (1 + (n + 3) / 4)) (HS_er hP.1 5) (by decide)
      exact Tm_some ⟨g, l, h, ⟨lo.1, fun _ z => z, Nat.le_refl _, fun i h1 h2 => lo.2.2.2 i h1 h2⟩, FW_tr FW_er (FW_ar (Or.inl rfl)), e3, e4, e5, Vd_0⟩
    refine Tm_suc (fun k => by rw [x_stringOf__12]) ?_
    refine Tm_ite (fun _ => l4 _ h3 rfl) (fun _ => ?_)
    exact Tm_ite (fun y => absurd y (mEr_e (by decide))) (fun _ => l4 _ h3 rfl)
  · rw [hr]
    -- the end
    have l4 : ∀ (N : Nat → Int32) (τ : MS), N 3 = nI n → N 4 = nI h → FW t σ τ → τ.1 59 = σ.1 59 → τ.1 56 = σ.1 56 → τ.1 55 = nI (h + 4 + n) → τ.2.2 28 h = nI 4 → τ.2.2 28 (h + 1) = nI n → τ.2.2 28 (h + 3) = nI 0 → (∀ i, B + 4 ≤ i → i < h → τ.2.2 28 i = σ.2.2 28 i) → Tm (fun k => x_stringOf__12 k 4 N τ) (VO g B h t σ) := by
      intro N τ n3 n4 hF t59 t56 t55 th t1 t3 hag
      refine Tm_suc (fun k => by rw [x_stringOf__12]) ?_
      refine Tm_chk0 (by decide) ?_
      rw [n4, show nI h + 2 = nI (h + 2) from n_add (q := 2) (by omega)]
      refine Tm_chk (n_in (by omega) (by omega)) ?_
      rw [n_cl (p := h + 2) (by omega), n3, hdv]
      show Tm (fun k => x_stringOf__12 k 5 N (mAr τ 28 (h + 2) (nI (1 + (n + 3) / 4)))) _
      refine Tm_suc (fun k => by rw [x_stringOf__12]) ?_
      rw [n4]
      have u : ∀ j, j ≠ h + 2 → (mAr τ 28 (h + 2) (nI (1 + (n + 3) / 4))).2.2 28 j = τ.2.2 28 j := fun j hj => by rw [mAr_s, upd_other hj]
      have hG : GOn ((mAr τ 28 (h + 2) (nI (1 + (n + 3) / 4))).2.2 28) g h 4 n (1 + (n + 3) / 4) 0 := by
        refine ⟨by rw [u h (by omega)]; exact th, by rw [u (h + 1) (by omega)]; exact t1, by rw [mAr_s, upd_same], by rw [u (h + 3) (by omega)]; exact t3, by decide, by omega, by decide, by omega, fun z => absurd z (by decide), fun z => absurd z (by decide), fun _ => rfl, fun z => absurd z (by decide)⟩
      exact Tm_some ⟨_, _, _, HS_good hP.1 z (hF.1 54 (by decide)) t55 (fun i h1 h2 => by rw [u i (by omega)]; exact hag i h1 h2) hG, FW_tr hF (FW_ar (Or.inl rfl)), t59.trans hP.2.1, by unfold ErB; show ∃ e, τ.1 56 = nI e ∧ e ≤ 11; rw [t56]; exact hP.2.2.2, fun y => by show ¬ τ.1 56 = 0; rw [t56]; exact y, h, rfl, Or.inr (Or.inr rfl)⟩
    -- the bytes
    have l2 : ∀ (j i : Nat) (N : Nat → Int32) (τ : MS), j + i = n → N 2 = nI f → N 3 = nI n → N 4 = nI h → N 5 = nI i → FW t σ τ → τ.1 59 = σ.1 59 → τ.1 56 = σ.1 56 → τ.1 55 = nI (h + 4 + n) → τ.2.2 28 h = nI 4 → τ.2.2 28 (h + 1) = nI n → τ.2.2 28 (h + 3) = nI 0 → (∀ i, B + 4 ≤ i → i < h → τ.2.2 28 i = σ.2.2 28 i) → Tm (fun k => x_stringOf__12 k 2 N τ) (VO g B h t σ) := by
      intro j
      induction j with
      | zero =>
        intro i N τ hi n2 n3 n4 n5 hF t59 t56 t55 th t1 t3 hag
        refine Tm_suc (fun k => by rw [x_stringOf__12]) ?_
        rw [n3, n5]
        exact Tm_ite (fun _ => l4 N τ n3 n4 hF t59 t56 t55 th t1 t3 hag) (fun y => absurd ((n_le (by omega) (by omega)).mpr (by omega)) y)
      | succ j ih =>
        intro i N τ hi n2 n3 n4 n5 hF t59 t56 t55 th t1 t3 hag
        refine Tm_suc (fun k => by rw [x_stringOf__12]) ?_
        rw [n3, n5, n2, n4]
        refine Tm_ite (fun y => absurd ((n_le (by omega) (by omega)).mp y) (by omega)) (fun _ => ?_)
        refine Tm_ite (fun _ => ?_) (fun _ => l4 N τ n3 n4 hF t59 t56 t55 th t1 t3 hag)
        rw [n_add (by omega), show nI h + 4 = nI (h + 4) from n_add (q := 4) (by omega), n_add (by omega)]
        refine Tm_chk (n_in (by omega) (by omega)) ?_
        refine Tm_chk (n_in (by omega) (by omega)) ?_
        rw [n_cl (p := h + 4 + i) (by omega)]
        generalize τ.2.2 12 (nI (f + i)).toNatClampNeg = x
        show Tm (fun k => x_stringOf__12 k 3 N (mAr τ 28 (h + 4 + i) x)) _
        refine Tm_suc (fun k => by rw [x_stringOf__12]) ?_
        have u : ∀ j, j ≠ h + 4 + i → (mAr τ 28 (h + 4 + i) x).2.2 28 j = τ.2.2 28 j := fun j hj => by rw [mAr_s, upd_other hj]
        exact ih (i + 1) _ _ (by omega) n2 n3 n4 (by show N 5 + 1 = _; rw [n5, n_add1]) (FW_tr hF (FW_ar (Or.inl rfl))) t59 t56 t55 (by rw [u _ (by omega)]; exact th) (by rw [u _ (by omega)]; exact t1) (by rw [u _ (by omega)]; exact t3) (fun i h1 h2 => by rw [u _ (by omega)]; exact hag i h1 h2)
    refine l2 n 0 _ _ (by omega) h2 h3 rfl rfl FW_mk (mMk_s (by decide)) (mMk_s (by decide)) ?_ ?_ ?_ ?_ (fun i h1 h2 => ?_)
    · show nI (h + (4 + n)) = _
      rw [Nat.add_assoc]
    · rw [mMk_28, upd_other (by omega), upd_other (by omega), upd_other (by omega), upd_same]; rfl
    · rw [mMk_28, upd_other (by omega), upd_other (by omega), upd_same]
    · rw [mMk_28, upd_same]; rfl
    · rw [mMk_28, upd_other (by omega), upd_other (by omega), upd_other (by omega), upd_other (by omega)]
end STR
