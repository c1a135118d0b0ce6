/-! Evaluation on both sides (reference): names of iterators are cleared. -/
section ECL
variable {T : Nat → Nat → Int32} {FN : Nat → Nat → Prop} {O r K d t u w XC : Nat} {lc : Prop} {σ σ1 σ2 τ τ1 τ2 ρ : MS} {m e fu dp : Nat} {it : Nat → Nat}
/-- one side, with an error -/
theorem z_clear {a b : Nat} (hS : STb T FN σ) (hC : Cx lc fu dp e σ) (hm : 1 ≤ m) (hIt : Its T FN O m K lc it) (hZ : EZ a b σ) {L : Nat → Int32} (d1 : L 1 = nI (it 0)) : Tm (fun k => x_clear k 0 L σ) (fun r => FE σ r.2 ∧ EZ a b r.2) := by
  have tb : ∀ (τ : MS), FE σ τ → ∀ a, 4 ≤ a → a ≤ 12 → τ.2.2 a = T a := fun τ f a h1 h2 => (STb_fe hS f).1 a h1 h2
  have b1 : ∀ (q i : Nat) (N : Nat → Int32) (τ : MS), q + i = m → (i < m → N 2 = nI (it i)) → (i = m → N 2 = -1) → FE σ τ → EZ a b τ → Tm (fun k => x_clear k 1 N τ) (fun r => FE σ r.2 ∧ EZ a b r.2) := by
    intro q
    induction q with
    | zero =>
      intro i N τ hi h1 h2 f hz
      refine Tm_suc (fun k => by rw [x_clear]) ?_
      rw [h2 (by omega)]
      refine Tm_ite (fun _ => ?_) (fun z => absurd rfl z)
      refine Tm_suc (fun k => by rw [x_clear]) ?_
      exact Tm_some ⟨f, hz⟩
    | succ q ih =>
      intro i N τ hi h1 h2 f hz
      obtain ⟨i1, i2, ⟨iq, ifl, iqb, W6⟩, _, i5, i6⟩ := hIt i (by omega)
      have n2 := h1 (by omega)
      have b3 : ∀ (M : Nat → Int32) (υ : MS), M 2 = nI (it i) → FE σ υ → EZ a b υ → Tm (fun k => x_clear k 3 M υ) (fun r => FE σ r.2 ∧ EZ a b r.2) := by
        intro M υ m2 g z
        refine Tm_suc (fun k => by rw [x_clear]) ?_
        rw [m2]
        refine Tm_chk (n_in (by omega) (by omega)) ?_
        rw [n_cl (p := it i) (by omega), tb υ g 9 (by omega) (by omega)]
        exact ih (i + 1) _ υ (by omega) (fun y => i5 y) (fun y => i6 y) g z
      have b2 : ∀ (f m : Nat) (x : Int32) (M : Nat → Int32) (υ : MS), WN T FN f 6 O m (K - i) lc x → M 2 = nI (it i) → M 3 = x → FE σ υ → EZ a b υ → Tm (fun k => x_clear k 2 M υ) (fun r => FE σ r.2 ∧ EZ a b r.2) := by
        intro f
        induction f with
        | zero => intro m x M υ hW; exact hW.elim
        | succ f ihf =>
          intro m x M υ hW m2 m3 g z
          refine Tm_suc (fun k => by rw [x_clear]) ?_
          rw [m3]
          unfold WN at hW
          rcases hW with ⟨y, _⟩ | ⟨y, _⟩ | ⟨y, _⟩ | ⟨y, _⟩ | ⟨y, _⟩ | ⟨y, _⟩ | ⟨_, hor⟩
          case inl => exact absurd y (by decide)
          case inr.inl => exact absurd y (by decide)
          case inr.inr.inl => exact absurd y (by decide)
          case inr.inr.inr.inl => exact absurd y (by decide)
          case inr.inr.inr.inr.inl => exact absurd y (by decide)
          case inr.inr.inr.inr.inr.inl => exact absurd y (by decide)
          rcases hor with ⟨_, y⟩ | ⟨m', n', s', em, xn', hn', x6', hs', x5', W9'⟩
          · rw [y]
            exact Tm_ite (fun _ => b3 _ υ m2 g z) (fun y => absurd rfl y)
          rw [xn']
          refine Tm_ite (fun y => absurd y (n_neg hn')) (fun _ => ?_)
          obtain ⟨pa, pi, pv, _, pb⟩ := s_bindOne (STb_fe hS g) (Cx_fe hC g) hn' x6' hs' x5'
          refine Tm_ob (pb _ rfl) (fun u hu => ?_)
          rw [hu]
          refine Tm_chk (n_in (by omega) (by omega)) ?_
          have g' := FE_tr g (FE_bd (σ := υ) (x := 0) pv)
          rw [n_cl (p := n') (by omega)]
          show Tm (fun k => x_clear k 2 (upd M 3 ((mAr υ pa pi 0).2.2 9 n')) (mAr υ pa pi 0)) _
          rw [tb _ g' 9 (by omega) (by omega)]
          exact ihf m' (T 9 n') _ _ W9' m2 rfl g' (EZ_bd0 z pv)
      refine Tm_suc (fun k => by rw [x_clear]) ?_
      rw [n2]
      refine Tm_ite (fun y => absurd y (n_neg i1)) (fun _ => ?_)
      refine Tm_chk (n_in (by omega) (by omega)) ?_
      rw [n_cl (p := it i) (by omega), tb τ f 6 (by omega) (by omega)]
      exact b2 ifl iq (T 6 (it i)) _ τ W6 n2 rfl f hz
  refine Tm_suc (fun k => by rw [x_clear]) ?_
  exact b1 m 0 _ σ (by omega) (fun _ => d1) (fun y => by omega) FE_rf hZ
/-- both sides -/
theorem E_clear (hS : STb T FN σ1) (hI : EI t w XC σ1 σ2) (hC : Cx lc fu dp e σ1) (hm : 1 ≤ m) (hIt : Its T FN O m K lc it) {L1 L2 : Nat → Int32} (d1 : L1 1 = nI (it 0)) (d2 : L2 1 = nI (it 0)) : T2 (fun k => x_clear k 0 L1 σ1) (fun k => x_clear k 0 L2 σ2) (fun r1 r2 => FE σ1 r1.2 ∧ FE σ2 r2.2 ∧ r1.2.1 = σ1.1 ∧ r2.2.1 = σ2.1 ∧ EI t w XC r1.2 r2.2) := by
  have hS2 := EI_ST hI hS
  have tb : ∀ (τ1 τ2 : MS), FE σ1 τ1 → FE σ2 τ2 → ∀ a, 4 ≤ a → a ≤ 12 → τ1.2.2 a = T a ∧ τ2.2.2 a = T a := fun τ1 τ2 f1 f2 a h1 h2 => ⟨(STb_fe hS f1).1 a h1 h2, (STb_fe hS2 f2).1 a h1 h2⟩
  have b1 : ∀ (q i : Nat) (N1 N2 : Nat → Int32) (τ1 τ2 : MS), q + i = m → (i < m → N1 2 = nI (it i) ∧ N2 2 = nI (it i)) → (i = m → N1 2 = -1 ∧ N2 2 = -1) → FE σ1 τ1 → FE σ2 τ2 → τ1.1 = σ1.1 → τ2.1 = σ2.1 → EI t w XC τ1 τ2 → T2 (fun k => x_clear k 1 N1 τ1) (fun k => x_clear k 1 N2 τ2) (fun r1 r2 => FE σ1 r1.2 ∧ FE σ2 r2.2 ∧ r1.2.1 = σ1.1 ∧ r2.2.1 = σ2.1 ∧ EI t w XC r1.2 r2.2) := by
    intro q
    induction q with
    | zero =>
      intro i N1 N2 τ1 τ2 hi h1 h2 f1 f2 s1 s2 hJ
      refine T2_suc (fun k => by rw [x_clear]) (fun k => by rw [x_clear]) ?_
      rw [(h2 (by omega)).1, (h2 (by omega)).2]
      refine T2_ite Iff.rfl (fun _ _ => ?_) (fun z _ => absurd rfl z)
      refine T2_suc (fun k => by rw [x_clear]) (fun k => by rw [x_clear]) ?_
      exact T2_some ⟨f1, f2, s1, s2, hJ⟩
    | succ q ih =>
      intro i N1 N2 τ1 τ2 hi h1 h2 f1 f2 s1 s2 hJ
      obtain ⟨i1, i2, ⟨iq, ifl, iqb, W6⟩, _, i5, i6⟩ := hIt i (by omega)
      obtain ⟨n2, o2⟩ := h1 (by omega)
      have b3 : ∀ (M1 M2 : Nat → Int32) (υ1 υ2 : MS), M1 2 = nI (it i) → M2 2 = nI (it i) → FE σ1 υ1 → FE σ2 υ2 → υ1.1 = σ1.1 → υ2.1 = σ2.1 → EI t w XC υ1 υ2 → T2 (fun k => x_clear k 3 M1 υ1) (fun k => x_clear k 3 M2 υ2) (fun r1 r2 => FE σ1 r1.2 ∧ FE σ2 r2.2 ∧ r1.2.1 = σ1.1 ∧ r2.2.1 = σ2.1 ∧ EI t w XC r1.2 r2.2) := by
        intro M1 M2 υ1 υ2 m2 l2 g1 g2 c1 c2 hK
        refine T2_suc (fun k => by rw [x_clear]) (fun k => by rw [x_clear]) ?_
        rw [m2, l2]
        refine T2_chk (n_in (by omega) (by omega)) (n_in (by omega) (by omega)) ?_
        rw [n_cl (p := it i) (by omega), (tb _ _ g1 g2 9 (by omega) (by omega)).1, (tb _ _ g1 g2 9 (by omega) (by omega)).2]
        exact ih (i + 1) _ _ υ1 υ2 (by omega) (fun y => ⟨i5 y, i5 y⟩) (fun y => ⟨i6 y, i6 y⟩) g1 g2 c1 c2 hK
      have b2 : ∀ (f m : Nat) (x : Int32) (M1 M2 : Nat → Int32) (υ1 υ2 : MS), WN T FN f 6 O m (K - i) lc x → M1 2 = nI (it i) → M2 2 = nI (it i) → M1 3 = x → M2 3 = x → FE σ1 υ1 → FE σ2 υ2 → υ1.1 = σ1.1 → υ2.1 = σ2.1 → EI t w XC υ1 υ2 → T2 (fun k => x_clear k 2 M1 υ1) (fun k => x_clear k 2 M2 υ2) (fun r1 r2 => FE σ1 r1.2 ∧ FE σ2 r2.2 ∧ r1.2.1 = σ1.1 ∧ r2.2.1 = σ2.1 ∧ EI t w XC r1.2 r2.2) := by
        intro f
        induction f with
        | zero => intro m x M1 M2 υ1 υ2 hW; exact hW.elim
        | succ f ihf =>
          intro m x M1 M2 υ1 υ2 hW m2 l2 m3 l3 g1 g2 c1 c2 hK
          refine T2_suc (fun k => by rw [x_clear]) (fun k => by rw [x_clear]) ?_
          rw [m3, l3]
          unfold WN at hW
          rcases hW with ⟨y, _⟩ | ⟨y, _⟩ | ⟨y, _⟩ | ⟨y, _⟩ | ⟨y, _⟩ | ⟨y, _⟩ | ⟨_, hor⟩
          case inl => exact absurd y (by decide)
          case inr.inl => exact absurd y (by decide)
          case inr.inr.inl => exact absurd y (by decide)
          case inr.inr.inr.inl => exact absurd y (by decide)
          case inr.inr.inr.inr.inl => exact absurd y (by decide)
          case inr.inr.inr.inr.inr.inl => exact absurd y (by decide)
          rcases hor with ⟨_, y⟩ | ⟨m', n', s', em, xn', hn', x6', hs', x5', W9'⟩
          · rw [y]
            exact T2_ite Iff.rfl (fun _ _ => b3 _ _ υ1 υ2 m2 l2 g1 g2 c1 c2 hK) (fun y _ => absurd rfl y)
          rw [xn']
          refine T2_ite Iff.rfl (fun y _ => absurd y (n_neg hn')) (fun _ _ => ?_)
          obtain ⟨pa, pi, pv, pb⟩ := E_bnd (STb_fe hS g1) hK (Cx_fe hC g1) hn' x6' hs' x5'
          refine T2_ob (pb _ _ rfl rfl) (fun u1 u2 hu => ?_)
          rw [hu.1, hu.2]
          refine T2_chk (n_in (by omega) (by omega)) (n_in (by omega) (by omega)) ?_
          have g1' := FE_tr g1 (FE_bd (σ := υ1) (x := 0) pv)
          have g2' := FE_tr g2 (FE_bd (σ := υ2) (x := 0) pv)
          rw [n_cl (p := n') (by omega)]
          show T2 (fun k => x_clear k 2 (upd M1 3 ((mAr υ1 pa pi 0).2.2 9 n')) (mAr υ1 pa pi 0)) (fun k => x_clear k 2 (upd M2 3 ((mAr υ2 pa pi 0).2.2 9 n')) (mAr υ2 pa pi 0)) _
          rw [(tb _ _ g1' g2' 9 (by omega) (by omega)).1, (tb _ _ g1' g2' 9 (by omega) (by omega)).2]
          exact ihf m' (T 9 n') _ _ _ _ W9' m2 l2 rfl rfl g1' g2' c1 c2 (EI_bd0 hK pv)
      refine T2_suc (fun k => by rw [x_clear]) (fun k => by rw [x_clear]) ?_
      rw [n2, o2]
      refine T2_ite Iff.rfl (fun y _ => absurd y (n_neg i1)) (fun _ _ => ?_)
      refine T2_chk (n_in (by omega) (by omega)) (n_in (by omega) (by omega)) ?_
      rw [n_cl (p := it i) (by omega), (tb _ _ f1 f2 6 (by omega) (by omega)).1, (tb _ _ f1 f2 6 (by omega) (by omega)).2]
      exact b2 ifl iq (T 6 (it i)) _ _ τ1 τ2 W6 n2 o2 rfl rfl f1 f2 s1 s2 hJ
  refine T2_suc (fun k => by rw [x_clear]) (fun k => by rw [x_clear]) ?_
  exact b1 m 0 _ _ σ1 σ2 (by omega) (fun _ => ⟨d1, d2⟩) (fun y => by omega) FE_rf FE_rf rfl rfl hI
end ECL
