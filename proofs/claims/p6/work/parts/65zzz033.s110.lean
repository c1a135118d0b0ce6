/-! Tuples and sets of what lies upon the pile (reference). -/
/-- values upon the pile from a place on -/
def PLv (g : Nat → Prop) (P : Nat → Int32) (f n : Nat) : Prop := ∀ i, i < n → ∃ m, P (f + i) = nI m ∧ (m < 3 ∨ g m)
section TSO
variable {g : Nat → Prop} {l : List Nat} {B h t : Nat} {σ : MS}
theorem PLv_mo {P : Nat → Int32} {f n m : Nat} (h : PLv g P f n) (hm : m ≤ n) : PLv g P f m := fun i hi => h i (by omega)
/-- no room, or an error before: nothing comes of it -/
theorem VO_mk {f n : Nat} {k : Int32} (hS : HS g l B h σ) (hE : ErB σ) (h59 : σ.1 59 = nI f) (hn : h + 4 + n ≤ B + 870000) : VO g B h f σ (0, mMk σ h k n) := by
  have hb := HS_b hS
  refine ⟨g, _, _, ⟨HS_mk hS hn, fun _ z => z, by omega, fun i h1 h2 => ?_⟩, FW_mk, (mMk_s (by decide)).trans h59, ErB_c (mMk_s (by decide)) hE, fun z => by rw [mMk_s (by decide)]; exact z, Vd_0⟩
  rw [mMk_28, upd_other (by omega), upd_other (by omega), upd_other (by omega), upd_other (by omega)]
theorem VO_er2 {f : Nat} {e : Nat} (hS : HS g l B h σ) (hE : ErB σ) (h59 : σ.1 59 = nI f) (he : e ≤ 11) : VO g B h f σ (0, mEr σ (nI e)) := by
  refine ⟨g, l, h, ⟨HS_er hS _, fun _ z => z, Nat.le_refl _, fun _ _ _ => rfl⟩, FW_er, (mEr_s (by decide)).trans h59, ErB_er hE he, fun z => ?_, Vd_0⟩
  rw [mEr_56, if_neg z]; exact z
theorem VO_sc {f : Nat} {x : Int32} {r : Int32 × MS} (hS : HS g l B h σ) (b : VO g B h f (mSc σ 59 x) r) : VO g B h f σ r :=
  VO_tr (τ := mSc σ 59 x) (g1 := g) (l1 := l) (h1 := h) ⟨HS_c hS rfl rfl rfl, fun _ z => z, Nat.le_refl _, fun _ _ _ => rfl⟩ (FW_sc (Or.inr (Or.inr (Or.inl rfl)))) (fun z => z) b
theorem er_le0 {τ : MS} (hE : ErB τ) (w : τ.1 56 ≤ 0) : τ.1 56 = 0 := by
  obtain ⟨e, e1, e2⟩ := hE
  rw [e1] at w ⊢
  rw [(n_le0 (by omega)).mp w]; rfl
theorem s_tupleOf {f n : Nat} (hS : HS g l B h σ) (hE : ErB σ) (h59 : σ.1 59 = nI (f + n)) (hfn : f + n ≤ 185000) (hV : PLv g (σ.2.2 29) f n) {L : Nat → Int32} (hL : L 1 = nI f) : Tm (fun k => x_tupleOf k 0 L σ) (VO g B h f σ) := by
  have hb := HS_b hS
  have hB := hS.2.1
  -- from the room on
  have l2 : ∀ (m : Nat) (N : Nat → Int32), m ≤ n → N 1 = nI f → N 2 = nI m → Tm (fun k => x_tupleOf k 2 N σ) (VO g B h f σ) := by
    intro m N hmn n1 n2
    refine Tm_suc (fun k => by rw [x_tupleOf]) ?_
    rw [n1]
    show Tm (fun k => x_tupleOf k 3 N (mSc σ 59 (nI f))) _
    have hS1 : HS g l B h (mSc σ 59 (nI f)) := HS_c hS rfl rfl rfl
    have hE1 : ErB (mSc σ 59 (nI f)) := ErB_c rfl hE
    refine Tm_mono (Q := VO g B h f (mSc σ 59 (nI f))) ?_ (fun r hr => VO_sc hS hr)
    have p29 : (mSc σ 59 (nI f)).2.2 29 = σ.2.2 29 := rfl
    have p59 : (mSc σ 59 (nI f)).1 59 = nI f := rfl
    generalize mSc σ 59 (nI f) = ρ at hS1 hE1 p29 p59
    refine Tm_suc (fun k => by rw [x_tupleOf]) ?_
    rw [n2]
    refine Tm_ob (s_make hS1 (n := m) (by omega) rfl) (fun r hr => ?_)
    rcases hr with ⟨z, hr⟩ | ⟨z, hr⟩
    · rw [hr]
      refine Tm_ite (fun w => absurd (er_le0 (ErB_er (e := 5) hE1 (by decide)) w) (mEr_e (by decide))) (fun _ => ?_)
      exact Tm_some (VO_er2 hS1 hE1 p59 (e := 5) (by decide))
    · rw [hr]
      refine Tm_ite (fun w => ?_) (fun _ => Tm_some (VO_mk hS1 hE1 p59 z))
      refine Tm_suc (fun k => by rw [x_tupleOf]) ?_
      have l5 : ∀ (j i : Nat) (M : Nat → Int32) (τ : MS), j + i = m → M 1 = nI f → M 2 = nI m → M 3 = nI h → M 4 = nI i → FW f ρ τ → τ.1 59 = nI f → τ.1 56 = ρ.1 56 → τ.1 55 = nI (h + 4 + m) → τ.2.2 29 = ρ.2.2 29 → τ.2.2 28 h = nI 5 → τ.2.2 28 (h + 1) = nI m → (∀ k, k < i → ∃ m, τ.2.2 28 (h + 4 + k) = nI m ∧ (m < 3 ∨ g m)) → (∀ k, B + 4 ≤ k → k < h → τ.2.2 28 k = ρ.2.2 28 k) → Tm (fun k => x_tupleOf k 5 M τ) (VO g B h f ρ) := by
        intro j
        induction j with
        | zero =>
          intro i M τ hi m1 m2 m3 m4 hF t59 t56 t55 t29 th th1 hm hag
          have hi : i = m := by omega
          subst hi
          refine Tm_suc (fun k => by rw [x_tupleOf]) ?_
          rw [m2, m4]
          refine Tm_ite (fun _ => ?_) (fun w => absurd ((n_le (by omega) (by omega)).mpr (by omega)) w)
          refine Tm_suc (fun k => by rw [x_tupleOf]) ?_
          refine Tm_ob (s_measured (k := 5) hS1 hE1 z (Or.inl rfl) hF t59 t56 t55 th th1 hm hag (by exact m3)) (fun r hr => Tm_some hr)
        | succ j ih =>
          intro i M τ hi m1 m2 m3 m4 hF t59 t56 t55 t29 th th1 hm hag
          obtain ⟨x, x1, x2⟩ := hV i (by omega)
          refine Tm_suc (fun k => by rw [x_tupleOf]) ?_
          rw [m2, m4, m1, m3, n_add (by omega), show nI h + 4 = nI (h + 4) from n_add (q := 4) (by omega), n_add (by omega)]
          refine Tm_ite (fun w => absurd ((n_le (by omega) (by omega)).mp w) (by omega)) (fun _ => ?_)
          refine Tm_chk (n_in (by omega) (by omega)) ?_
          refine Tm_chk (n_in (by omega) (by omega)) ?_
          rw [n_cl (p := h + 4 + i) (by omega), n_cl (p := f + i) (by omega), t29, p29, x1]
          show Tm (fun k => x_tupleOf k 6 M (mAr τ 28 (h + 4 + i) (nI x))) _
          refine Tm_suc (fun k => by rw [x_tupleOf]) ?_
          have u : ∀ j, j ≠ h + 4 + i → (mAr τ 28 (h + 4 + i) (nI x)).2.2 28 j = τ.2.2 28 j := fun j hj => by rw [mAr_s, upd_other hj]
          refine ih (i + 1) _ _ (by omega) m1 m2 m3 (by show M 4 + 1 = _; rw [m4, n_add1]) (FW_tr hF (FW_ar (Or.inl rfl))) t59 t56 t55 (by rw [mAr_o (by decide)]; exact t29) (by rw [u _ (by omega)]; exact th) (by rw [u _ (by omega)]; exact th1) (fun k hk => ?_) (fun k h1 h2 => by rw [u _ (by omega)]; exact hag k h1 h2)
          by_cases e : k = i
          · rw [e, mAr_s, upd_same]; exact ⟨x, rfl, x2⟩
          · rw [u _ (by omega)]; exact hm k (by omega)
      refine l5 m 0 _ _ (by omega) n1 n2 rfl rfl FW_mk ((mMk_s (by decide)).trans p59) (mMk_s (by decide)) ?_ (mMk_o (by decide)) ?_ ?_ (fun k hk => absurd hk (Nat.not_lt_zero k)) (fun i h1 h2 => ?_)
      · show nI (h + (4 + m)) = _
        rw [Nat.add_assoc]
      · rw [mMk_28, upd_other (by omega), upd_other (by omega), upd_other (by omega), upd_same]; rfl
      · rw [mMk_28, upd_other (by omega), upd_other (by omega), upd_same]
      · rw [mMk_28, upd_other (by omega), upd_other (by omega), upd_other (by omega), upd_other (by omega)]
  have l1 : ∀ (m : Nat) (N : Nat → Int32), m ≤ n → N 1 = nI f → N 2 = nI m → Tm (fun k => x_tupleOf k 1 N σ) (VO g B h f σ) := by
    intro m
    induction m with
    | zero =>
      intro N hm n1 n2
      refine Tm_suc (fun k => by rw [x_tupleOf]) ?_
      rw [n2]
      exact Tm_ite (fun _ => l2 0 N hm n1 n2) (fun w => absurd ((n_le0 (by decide)).mpr rfl) w)
    | succ m ih =>
      intro N hm n1 n2
      refine Tm_suc (fun k => by rw [x_tupleOf]) ?_
      rw [n2, n1, n_add (by omega), show nI (f + (m + 1)) - 1 = nI (f + m) from n_sub (p := f + (m + 1)) (q := 1) (by omega) (by omega)]
      refine Tm_ite (fun w => absurd ((n_le0 (by omega)).mp w) (by omega)) (fun _ => ?_)
      refine Tm_chk (n_in (by omega) (by omega)) ?_
      refine Tm_ite (fun _ => ?_) (fun _ => l2 (m + 1) N hm n1 n2)
      exact ih _ (by omega) n1 (n_pred m (by omega))
  refine Tm_suc (fun k => by rw [x_tupleOf]) ?_
  rw [h59, hL, n_sub (by omega) (by omega), show f + n - f = n by omega]
  exact l1 n _ (Nat.le_refl _) hL rfl
/-- the frame of sorting -/
def SF (f : Nat) (σ σ' : MS) : Prop := (∀ j, j ≠ 59 → σ'.1 j = σ.1 j) ∧ (∀ j, ¬ (j = 29 ∨ j = 41) → σ'.2.2 j = σ.2.2 j) ∧ (∀ i, i < f → σ'.2.2 29 i = σ.2.2 29 i)
theorem SF_rf {f : Nat} : SF f σ σ := ⟨fun _ _ => rfl, fun _ _ => rfl, fun _ _ => rfl⟩
theorem SF_tr {f : Nat} {τ υ : MS} (h : SF f σ τ) (k : SF f τ υ) : SF f σ υ := ⟨fun j hj => (k.1 j hj).trans (h.1 j hj), fun j hj => (k.2.1 j hj).trans (h.2.1 j hj), fun i hi => (k.2.2 i hi).trans (h.2.2 i hi)⟩
theorem SF_HS {f : Nat} {τ : MS} (hN : SF f σ τ) (hS : HS g l B h σ) : HS g l B h τ := HS_c hS (hN.1 54 (by decide)) (hN.1 55 (by decide)) (hN.2.1 28 (by decide))
theorem SF_41 {f i : Nat} {x : Int32} : SF f σ (mAr σ 41 i x) := ⟨fun _ _ => rfl, fun k hk => mAr_o (by omega), fun _ _ => by rw [mAr_o (by decide)]⟩
theorem SF_29 {f i : Nat} {x : Int32} (hi : f ≤ i) : SF f σ (mAr σ 29 i x) := ⟨fun _ _ => rfl, fun k hk => mAr_o (by omega), fun k hk => by rw [mAr_s, upd_other (by omega)]⟩
theorem s_merge {f n a b c : Nat} (hS : HS g l B h σ) (hV : PLv g (σ.2.2 29) f n) (hn : n ≤ 60100) (hfn : f + n ≤ 185000) (hab : a ≤ b) (hbc : b ≤ c) (hcn : c ≤ n) {L : Nat → Int32} (h1 : L 1 = nI f) (h2 : L 2 = nI a) (h3 : L 3 = nI b) (h4 : L 4 = nI c) : Tm (fun k => x_merge k 0 L σ) (fun r => SF f σ r.2 ∧ r.2.2.2 29 = σ.2.2 29 ∧ r.2.1 59 = σ.1 59 ∧ (∀ i, a ≤ i → i < c → ∃ m, r.2.2.2 41 i = nI m ∧ (m < 3 ∨ g m)) ∧ (∀ i, i < a ∨ c ≤ i → r.2.2.2 41 i = σ.2.2 41 i)) := by
  have l1 : ∀ (q k i j : Nat) (N : Nat → Int32) (τ : MS), q + k = c → a ≤ i → i ≤ b → b ≤ j → j ≤ c → k + b = i + j → N 1 = nI f → N 3 = nI b → N 4 = nI c → N 5 = nI i → N 6 = nI j → N 7 = nI k → SF f σ τ → τ.2.2 29 = σ.2.2 29 → τ.1 59 = σ.1 59 → (∀ i, a ≤ i → i < k → ∃ m, τ.2.2 41 i = nI m ∧ (m < 3 ∨ g m)) → (∀ i, i < a ∨ k ≤ i → τ.2.2 41 i = σ.2.2 41 i) → Tm (fun k => x_merge k 1 N τ) (fun r => SF f σ r.2 ∧ r.2.2.2 29 = σ.2.2 29 ∧ r.2.1 59 = σ.1 59 ∧ (∀ i, a ≤ i → i < c → ∃ m, r.2.2.2 41 i = nI m ∧ (m < 3 ∨ g m)) ∧ (∀ i, i < a ∨ c ≤ i → r.2.2.2 41 i = σ.2.2 41 i)) := by
    intro q
    induction q with
    | zero =>
      intro k i j N τ hk hai hib hbj hjc hs n1 n3 n4 n5 n6 n7 hF t29 t59 hm ho
      have hk : k = c := by omega
      subst hk
      refine Tm_suc (fun k => by rw [x_merge]) ?_
      rw [n4, n7]
      refine Tm_ite (fun _ => ?_) (fun w => absurd ((n_le (by omega) (by omega)).mpr (by omega)) w)
      refine Tm_suc (fun k => by rw [x_merge]) ?_
      exact Tm_some ⟨hF, t29, t59, hm, ho⟩
    | succ q ih =>
      intro k i j N τ hk hai hib hbj hjc hs n1 n3 n4 n5 n6 n7 hF t29 t59 hm ho
      -- one is taken
      have nx : ∀ (i' j' x : Nat) (M : Nat → Int32), (x < 3 ∨ g x) → a ≤ i' → i' ≤ b → b ≤ j' → j' ≤ c → k + 1 + b = i' + j' → M 1 = nI f → M 3 = nI b → M 4 = nI c → M 7 = nI k → M 5 = nI i → M 6 = nI j → M 101 = nI k → M 100 = nI x → ((M 8 = 0 ∧ i' = i ∧ j' = j + 1) ∨ (¬ M 8 = 0 ∧ i' = i + 1 ∧ j' = j)) → Tm (fun k => x_merge k 6 M τ) (fun r => SF f σ r.2 ∧ r.2.2.2 29 = σ.2.2 29 ∧ r.2.1 59 = σ.1 59 ∧ (∀ i, a ≤ i → i < c → ∃ m, r.2.2.2 41 i = nI m ∧ (m < 3 ∨ g m)) ∧ (∀ i, i < a ∨ c ≤ i → r.2.2.2 41 i = σ.2.2 41 i)) := by
        intro i' j' x M hx e1 e2 e3 e4 e5 m1 m3 m4 m7 m5 m6 m101 m100 hcase
        refine Tm_suc (fun k => by rw [x_merge]) ?_
        rw [m101]
        refine Tm_chk (n_in (by omega) (by omega)) ?_
        rw [n_cl (p := k) (by omega), m100]
        show Tm (fun f => x_merge f 7 M (mAr τ 41 k (nI x))) _
        have fin : ∀ M : Nat → Int32, M 1 = nI f → M 3 = nI b → M 4 = nI c → M 5 = nI i' → M 6 = nI j' → M 7 = nI (k + 1) → Tm (fun k' => x_merge k' 1 M (mAr τ 41 k (nI x))) (fun r => SF f σ r.2 ∧ r.2.2.2 29 = σ.2.2 29 ∧ r.2.1 59 = σ.1 59 ∧ (∀ i, a ≤ i → i < c → ∃ m, r.2.2.2 41 i = nI m ∧ (m < 3 ∨ g m)) ∧ (∀ i, i < a ∨ c ≤ i → r.2.2.2 41 i = σ.2.2 41 i)) := fun M p1 p3 p4 p5 p6 p7 => by
          refine ih (k + 1) i' j' M _ (by omega) e1 e2 e3 e4 (by omega) p1 p3 p4 p5 p6 p7 (SF_tr hF SF_41) (by rw [mAr_o (by decide)]; exact t29) t59 (fun w h1 h2 => ?_) (fun w hw => ?_)
          · by_cases e : w = k
            · rw [e, mAr_s, upd_same]; exact ⟨x, rfl, hx⟩
            · rw [mAr_s, upd_other e]; exact hm w h1 (by omega)
          · rw [mAr_s, upd_other (by omega)]; exact ho w (by omega)
        refine Tm_suc (fun k => by rw [x_merge]) ?_
        rcases hcase with ⟨z, ei, ej⟩ | ⟨z, ei, ej⟩
        · refine Tm_ite (fun _ => ?_) (fun w => absurd z w)
          refine Tm_suc (fun k => by rw [x_merge]) ?_
          refine Tm_suc (fun k => by rw [x_merge]) ?_
          refine Tm_ite (c := M 8 = 0) (fun _ => ?_) (fun w => absurd z w)
          refine Tm_suc (fun k => by rw [x_merge]) ?_
          refine Tm_suc (fun k => by rw [x_merge]) ?_
          refine fin _ m1 m3 m4 ?_ ?_ ?_
          · show M 5 + 0 = _
            rw [m5, ei]; exact n_add (q := 0) (by omega)
          · show M 6 + 1 = _
            rw [m6, ej, n_add1]
          · show M 7 + 1 = _
            rw [m7, n_add1]
        · refine Tm_ite (fun w => absurd w z) (fun _ => ?_)
          refine Tm_suc (fun k => by rw [x_merge]) ?_
          refine Tm_ite (c := M 8 = 0) (fun w => absurd w z) (fun _ => ?_)
          refine Tm_suc (fun k => by rw [x_merge]) ?_
          refine fin _ m1 m3 m4 ?_ ?_ ?_
          · show M 5 + 1 = _
            rw [m5, ei, n_add1]
          · show M 6 + 0 = _
            rw [m6, ej]; exact n_add (q := 0) (by omega)
          · show M 7 + 1 = _
            rw [m7, n_add1]
      -- from the left
      have left : i < b → Tm (fun k => x_merge k 2 N τ) (fun r => SF f σ r.2 ∧ r.2.2.2 29 = σ.2.2 29 ∧ r.2.1 59 = σ.1 59 ∧ (∀ i, a ≤ i → i < c → ∃ m, r.2.2.2 41 i = nI m ∧ (m < 3 ∨ g m)) ∧ (∀ i, i < a ∨ c ≤ i → r.2.2.2 41 i = σ.2.2 41 i)) := fun hi => by
        obtain ⟨x, x1, x2⟩ := hV i (by omega)
        refine Tm_suc (fun k => by rw [x_merge]) ?_
        refine Tm_suc (fun k => by rw [x_merge]) ?_
        have e5 : upd N 100 1 1 + upd N 100 1 5 = nI (f + i) := by
          show N 1 + N 5 = _
          rw [n1, n5, n_add (by omega)]
        show Tm (fun k' => if ¬ (N 1 + N 5 < 0 ∨ 185000 ≤ (N 1 + N 5).toNatClampNeg) then x_merge k' 6 (upd (upd (upd (upd N 100 1) 8 1) 100 (τ.2.2 29 (N 1 + N 5).toNatClampNeg)) 101 (N 7)) τ else none) _
        rw [n1, n5, n_add (by omega)]
        refine Tm_chk (n_in (by omega) (by omega)) ?_
        rw [n_cl (p := f + i) (by omega), t29, x1]
        exact nx (i + 1) j x _ x2 (by omega) (by omega) hbj hjc (by omega) n1 n3 n4 n7 n5 n6 n7 rfl (Or.inr ⟨show ¬ (1 : Int32) = 0 by decide, rfl, rfl⟩)
      have right : j < c → Tm (fun k => x_merge k 3 N τ) (fun r => SF f σ r.2 ∧ r.2.2.2 29 = σ.2.2 29 ∧ r.2.1 59 = σ.1 59 ∧ (∀ i, a ≤ i → i < c → ∃ m, r.2.2.2 41 i = nI m ∧ (m < 3 ∨ g m)) ∧ (∀ i, i < a ∨ c ≤ i → r.2.2.2 41 i = σ.2.2 41 i)) := fun hj => by
        obtain ⟨x, x1, x2⟩ := hV j (by omega)
        refine Tm_suc (fun k => by rw [x_merge]) ?_
        refine Tm_suc (fun k => by rw [x_merge]) ?_
        show Tm (fun k' => x_merge k' 5 (upd (upd (upd N 100 0) 8 0) 100 (N 7)) τ) _
        refine Tm_suc (fun k => by rw [x_merge]) ?_
        show Tm (fun k' => if ¬ (N 1 + N 6 < 0 ∨ 185000 ≤ (N 1 + N 6).toNatClampNeg) then x_merge k' 6 (upd (upd (upd (upd (upd N 100 0) 8 0) 100 (N 7)) 100 (τ.2.2 29 (N 1 + N 6).toNatClampNeg)) 101 (N 7)) τ else none) _
        rw [n1, n6, n_add (by omega)]
        refine Tm_chk (n_in (by omega) (by omega)) ?_
        rw [n_cl (p := f + j) (by omega), t29, x1]
        exact nx i (j + 1) x _ x2 hai hib (by omega) (by omega) (by omega) n1 n3 n4 n7 n5 n6 n7 rfl (Or.inl ⟨rfl, rfl, rfl⟩)
      refine Tm_suc (fun k => by rw [x_merge]) ?_
      rw [n4, n7, n6, n3, n5, n1]
      refine Tm_ite (fun w => absurd ((n_le (by omega) (by omega)).mp w) (by omega)) (fun _ => ?_)
      refine Tm_ite (fun w => left (by have := (n_eq (by omega) (by omega)).mp w; omega)) (fun w => ?_)
      have hjc2 : j < c := by
        by_cases e : j = c
        · exact absurd (by rw [e]) w
        · omega
      refine Tm_ite (fun _ => right hjc2) (fun w2 => ?_)
      have hib2 : i < b := by
        by_cases e : b ≤ i
        · exact absurd ((n_le (by omega) (by omega)).mpr e) w2
        · omega
      rw [n_add (by omega), n_add (by omega)]
      refine Tm_chk (n_in (by omega) (by omega)) ?_
      refine Tm_chk (n_in (by omega) (by omega)) ?_
      obtain ⟨x, x1, x2⟩ := hV i (by omega)
      obtain ⟨y, y1, y2⟩ := hV j (by omega)
      rw [n_cl (p := f + i) (by omega), n_cl (p := f + j) (by omega), t29, x1, y1]
      refine Tm_ob (s_compareV (SF_HS hF hS) x2 y2 rfl rfl) (fun r hr => ?_)
      rw [hr]
      exact Tm_ite (fun _ => right hjc2) (fun _ => left hib2)
  refine Tm_suc (fun k => by rw [x_merge]) ?_
  exact l1 (c - a) a a b _ σ (by omega) (Nat.le_refl _) hab (Nat.le_refl _) hbc (by omega) h1 h3 h4 h2 h3 h2 SF_rf rfl rfl (fun i h1 h2 => absurd h1 (by omega)) (fun _ _ => rfl)
end TSO
