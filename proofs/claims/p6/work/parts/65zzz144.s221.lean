/-! Evaluation on both sides (reference): names of iterators are cleared. -/
section ECL
variable {T : Nat → Nat → Int32} {FN : Nat → Nat → Prop} {O r K d t u w XC : Nat} {lc : Nat → Prop} {σ σ1 σ2 τ τ1 τ2 ρ : MS} {m e fu dp : Nat} {it : Nat → Nat}
/-- places of the names of all these iterators -/
def NmI (T : Nat → Nat → Int32) (σ : MS) (it : Nat → Nat) (i0 m a i : Nat) : Prop := ∃ j, i0 ≤ j ∧ j < m ∧ NmP T σ (T 6 (it j)) a i
theorem NmI_NU (hC : Cx lc fu dp e σ) (hIt : Its T FN O m K lc it) {a i : Nat} (h : NmI T σ it 0 m a i) : NU σ a i := by
  obtain ⟨j, _, hj, hn⟩ := h
  obtain ⟨_, _, ⟨q, f, _, W6⟩, _⟩ := hIt j hj
  have go : ∀ (q f : Nat) (x : Int32), WN T FN f 6 O q (K - j) lc x → NmP T σ x a i → NU σ a i := by
    intro q
    induction q with
    | zero =>
      intro f x hW hn
      rcases WN_6 hW with ⟨_, z⟩ | ⟨m', n', s', f', eq, _⟩
      · rw [z] at hn; exact absurd hn NmP_0
      · omega
    | succ q ih =>
      intro f x hW hn
      rcases WN_6 hW with ⟨z, _⟩ | ⟨m', n', s', f', eq, xn, hn', x6, hs, x5, W9⟩
      · omega
      · rcases (NmP_1 hn' xn).mp hn with z | z
        · exact NPl_NU hC x6 hs x5.2 z
        · exact ih f' _ (by rw [show q = m' by omega]; exact W9) z
  exact go q f _ W6 hn
/-- one side, with an error -/
theorem z_clear {a b : Nat} (hS : STb T FN σ) (hC : Cx lc fu dp e σ) (hm : 1 ≤ m) (hIt : Its T FN O m K lc it) (hZ : EZ a b σ) {L : Nat → Int32} (d1 : L 1 = nI (it 0)) : Tm (fun k => x_clear k 0 L σ) (fun r => FE σ r.2 ∧ EZ a b r.2 ∧ ∀ p s, NmI T σ it 0 m p s → r.2.2.2 p s = 0) := by
  have tb : ∀ (τ : MS), FE σ τ → ∀ a i, 4 ≤ a → a ≤ 9 → (1 ≤ i ∧ i < LNo T % 70001) → τ.2.2 a i = T a i := fun τ f a i h1 h2 h3 => (STb_fe hS f).1 a i h1 (by omega) ⟨fun _ => h3, fun z => by omega⟩
  have b1 : ∀ (q i : Nat) (N : Nat → Int32) (τ : MS), q + i = m → (i < m → N 2 = nI (it i)) → (i = m → N 2 = -1) → FE σ τ → EZ a b τ → (∀ p s, NmI T σ it 0 m p s → τ.2.2 p s = 0 ∨ NmI T σ it i m p s) → Tm (fun k => x_clear k 1 N τ) (fun r => FE σ r.2 ∧ EZ a b r.2 ∧ ∀ p s, NmI T σ it 0 m p s → r.2.2.2 p s = 0) := by
    intro q
    induction q with
    | zero =>
      intro i N τ hi h1 h2 f hz zz
      refine Tm_suc (fun k => by rw [x_clear]) ?_
      rw [h2 (by omega)]
      refine Tm_ite (fun _ => ?_) (fun z => absurd rfl z)
      refine Tm_suc (fun k => by rw [x_clear]) ?_
      refine Tm_some ⟨f, hz, fun p s y => ?_⟩
      rcases zz p s y with y | ⟨j, j1, j2, _⟩
      · exact y
      · omega
    | succ q ih =>
      intro i N τ hi h1 h2 f hz zz
      obtain ⟨i1, i2, ⟨iq, ifl, iqb, W6⟩, _, i5, i6⟩ := hIt i (by omega)
      have n2 := h1 (by omega)
      have b3 : ∀ (M : Nat → Int32) (υ : MS), M 2 = nI (it i) → FE σ υ → EZ a b υ → (∀ p s, NmI T σ it 0 m p s → υ.2.2 p s = 0 ∨ NmI T σ it (i + 1) m p s) → Tm (fun k => x_clear k 3 M υ) (fun r => FE σ r.2 ∧ EZ a b r.2 ∧ ∀ p s, NmI T σ it 0 m p s → r.2.2.2 p s = 0) := by
        intro M υ m2 g z zz
        refine Tm_suc (fun k => by rw [x_clear]) ?_
        rw [m2]
        refine Tm_chk (n_in (by omega) (by omega)) ?_
        rw [n_cl (p := it i) (by omega), tb υ g 9 _ (by omega) (by omega) (by omega)]
        exact ih (i + 1) _ υ (by omega) (fun y => i5 y) (fun y => i6 y) g z zz
      have b2 : ∀ (f m' : Nat) (x : Int32) (M : Nat → Int32) (υ : MS), WN T FN f 6 O m' (K - i) lc x → M 2 = nI (it i) → M 3 = x → FE σ υ → EZ a b υ → (∀ p s, NmI T σ it 0 m p s → υ.2.2 p s = 0 ∨ NmP T σ x p s ∨ NmI T σ it (i + 1) m p s) → Tm (fun k => x_clear k 2 M υ) (fun r => FE σ r.2 ∧ EZ a b r.2 ∧ ∀ p s, NmI T σ it 0 m p s → r.2.2.2 p s = 0) := by
        intro f
        induction f with
        | zero => intro m' x M υ hW; exact hW.elim
        | succ f ihf =>
          intro m' x M υ hW m2 m3 g z zz
          refine Tm_suc (fun k => by rw [x_clear]) ?_
          rw [m3]
          rcases WN_6 hW with ⟨_, y⟩ | ⟨m2', n', s', f', em, xn', hn', x6', hs', x5', W9'⟩
          · rw [y]
            refine Tm_ite (fun _ => b3 _ υ m2 g z (fun p s hp => ?_)) (fun y => absurd rfl y)
            rcases zz p s hp with q1 | q1 | q1
            · exact Or.inl q1
            · rw [y] at q1; exact absurd q1 NmP_0
            · exact Or.inr q1
          rw [xn']
          refine Tm_ite (fun y => absurd y (n_neg hn')) (fun _ => ?_)
          have hC' := Cx_fe hC g
          obtain ⟨pa, pi, pv, pd, pb⟩ := s_bindOne (STb_fe hS g) hC' hn' x6' hs' x5'.1
          have pn : ∀ a2 i2, NPl T υ n' a2 i2 ↔ a2 = pa ∧ i2 = pi := fun a2 i2 => NPl_1 x6' hs' hC'.1 hC'.2.1 pd
          refine Tm_ob (pb _ rfl) (fun u hu => ?_)
          rw [hu]
          refine Tm_chk (n_in (by omega) (by omega)) ?_
          have g' := FE_tr g (FE_b0 (σ := υ) pv (NPl_NU hC' x6' hs' x5'.2 ((pn pa pi).mpr ⟨rfl, rfl⟩)))
          rw [n_cl (p := n') (by omega)]
          show Tm (fun k => x_clear k 2 (upd M 3 ((mAr υ pa pi 0).2.2 9 n')) (mAr υ pa pi 0)) _
          rw [tb _ g' 9 _ (by omega) (by omega) (by omega)]
          have W9f : WN T FN f 6 O m2' (K - i) lc (T 9 n') := by
            unfold WN at hW
            rcases hW with ⟨y, _⟩ | ⟨y, _⟩ | ⟨y, _⟩ | ⟨y, _⟩ | ⟨y, _⟩ | ⟨y, _⟩ | ⟨_, hor⟩
            case inl => exact absurd y (by decide)
            case inr.inl => exact absurd y (by decide)
            case inr.inr.inl => exact absurd y (by decide)
            case inr.inr.inr.inl => exact absurd y (by decide)
            case inr.inr.inr.inr.inl => exact absurd y (by decide)
            case inr.inr.inr.inr.inr.inl => exact absurd y (by decide)
            rcases hor with ⟨_, y⟩ | ⟨m3', n3, s3, em3, xn3, hn3, _, _, _, w9⟩
            · rw [xn'] at y; exact absurd y (n_neg hn')
            · have e3 : n3 = n' := (n_eq (by omega) (by omega)).mp (xn3.symm.trans xn')
              subst e3
              rw [show m2' = m3' by omega]; exact w9
          refine ihf m2' (T 9 n') _ _ W9f m2 rfl g' (EZ_bd0 z pv) (fun p s hp => ?_)
          by_cases c : p = pa ∧ s = pi
          · rw [c.1, c.2]; exact Or.inl (by rw [mAr_s, upd_same])
          · have ot : (mAr υ pa pi 0).2.2 p s = υ.2.2 p s := by
              by_cases e : p = pa
              · subst e; rw [mAr_s, upd_other (fun y => c ⟨rfl, y⟩)]
              · rw [mAr_o e]
            rw [ot]
            rcases zz p s hp with q1 | q1 | q1
            · exact Or.inl q1
            · rcases (NmP_1 hn' xn').mp q1 with q1 | q1
              · exact absurd ((pn p s).mp ((NPl_c (g.1 69 (by unfold AlS; omega) (by decide) (by decide) (by decide)) (g.1 67 (by unfold AlS; omega) (by decide) (by decide) (by decide)) ((FEn_b g).2.2.1 1 (by unfold Zn; omega))).mpr q1)) c
              · exact Or.inr (Or.inl q1)
            · exact Or.inr (Or.inr q1)
      refine Tm_suc (fun k => by rw [x_clear]) ?_
      rw [n2]
      refine Tm_ite (fun y => absurd y (n_neg i1)) (fun _ => ?_)
      refine Tm_chk (n_in (by omega) (by omega)) ?_
      rw [n_cl (p := it i) (by omega), tb τ f 6 _ (by omega) (by omega) (by omega)]
      refine b2 ifl iq (T 6 (it i)) _ τ W6 n2 rfl f hz (fun p s hp => ?_)
      rcases zz p s hp with q1 | ⟨j, j1, j2, q1⟩
      · exact Or.inl q1
      · by_cases c : j = i
        · subst c; exact Or.inr (Or.inl q1)
        · exact Or.inr (Or.inr ⟨j, by omega, j2, q1⟩)
  refine Tm_suc (fun k => by rw [x_clear]) ?_
  exact b1 m 0 _ σ (by omega) (fun _ => d1) (fun y => by omega) FE_rf hZ (fun p s hp => Or.inr hp)
/-- both sides -/
theorem E_clear (hS : STb T FN σ1) (hI : EI t w XC σ1 σ2) (hC : Cx lc fu dp e σ1) (hm : 1 ≤ m) (hIt : Its T FN O m K lc it) {L1 L2 : Nat → Int32} (d1 : L1 1 = nI (it 0)) (d2 : L2 1 = nI (it 0)) : T2 (fun k => x_clear k 0 L1 σ1) (fun k => x_clear k 0 L2 σ2) (fun r1 r2 => FE σ1 r1.2 ∧ FE σ2 r2.2 ∧ r1.2.1 = σ1.1 ∧ r2.2.1 = σ2.1 ∧ EI t w XC r1.2 r2.2 ∧ ∀ p s, NmI T σ1 it 0 m p s → r1.2.2.2 p s = 0 ∧ r2.2.2.2 p s = 0) := by
  have hS2 := EI_ST hI hS
  have tb : ∀ (τ1 τ2 : MS), FE σ1 τ1 → FE σ2 τ2 → ∀ a i, 4 ≤ a → a ≤ 9 → (1 ≤ i ∧ i < LNo T % 70001) → τ1.2.2 a i = T a i ∧ τ2.2.2 a i = T a i := fun τ1 τ2 f1 f2 a i h1 h2 h3 => ⟨(STb_fe hS f1).1 a i h1 (by omega) ⟨fun _ => h3, fun z => by omega⟩, (STb_fe hS2 f2).1 a i h1 (by omega) ⟨fun _ => h3, fun z => by omega⟩⟩
  have b1 : ∀ (q i : Nat) (N1 N2 : Nat → Int32) (τ1 τ2 : MS), q + i = m → (i < m → N1 2 = nI (it i) ∧ N2 2 = nI (it i)) → (i = m → N1 2 = -1 ∧ N2 2 = -1) → FE σ1 τ1 → FE σ2 τ2 → τ1.1 = σ1.1 → τ2.1 = σ2.1 → EI t w XC τ1 τ2 → (∀ p s, NmI T σ1 it 0 m p s → (τ1.2.2 p s = 0 ∧ τ2.2.2 p s = 0) ∨ NmI T σ1 it i m p s) → T2 (fun k => x_clear k 1 N1 τ1) (fun k => x_clear k 1 N2 τ2) (fun r1 r2 => FE σ1 r1.2 ∧ FE σ2 r2.2 ∧ r1.2.1 = σ1.1 ∧ r2.2.1 = σ2.1 ∧ EI t w XC r1.2 r2.2 ∧ ∀ p s, NmI T σ1 it 0 m p s → r1.2.2.2 p s = 0 ∧ r2.2.2.2 p s = 0) := by
    intro q
    induction q with
    | zero =>
      intro i N1 N2 τ1 τ2 hi h1 h2 f1 f2 s1 s2 hJ zz
      refine T2_suc (fun k => by rw [x_clear]) (fun k => by rw [x_clear]) ?_
      rw [(h2 (by omega)).1, (h2 (by omega)).2]
      refine T2_ite Iff.rfl (fun _ _ => ?_) (fun z _ => absurd rfl z)
      refine T2_suc (fun k => by rw [x_clear]) (fun k => by rw [x_clear]) ?_
      refine T2_some ⟨f1, f2, s1, s2, hJ, fun p s y => ?_⟩
      rcases zz p s y with y | ⟨j, j1, j2, _⟩
      · exact y
      · omega
    | succ q ih =>
      intro i N1 N2 τ1 τ2 hi h1 h2 f1 f2 s1 s2 hJ zz
      obtain ⟨i1, i2, ⟨iq, ifl, iqb, W6⟩, _, i5, i6⟩ := hIt i (by omega)
      obtain ⟨n2, o2⟩ := h1 (by omega)
      have b3 : ∀ (M1 M2 : Nat → Int32) (υ1 υ2 : MS), M1 2 = nI (it i) → M2 2 = nI (it i) → FE σ1 υ1 → FE σ2 υ2 → υ1.1 = σ1.1 → υ2.1 = σ2.1 → EI t w XC υ1 υ2 → (∀ p s, NmI T σ1 it 0 m p s → (υ1.2.2 p s = 0 ∧ υ2.2.2 p s = 0) ∨ NmI T σ1 it (i + 1) m p s) → T2 (fun k => x_clear k 3 M1 υ1) (fun k => x_clear k 3 M2 υ2) (fun r1 r2 => FE σ1 r1.2 ∧ FE σ2 r2.2 ∧ r1.2.1 = σ1.1 ∧ r2.2.1 = σ2.1 ∧ EI t w XC r1.2 r2.2 ∧ ∀ p s, NmI T σ1 it 0 m p s → r1.2.2.2 p s = 0 ∧ r2.2.2.2 p s = 0) := by
        intro M1 M2 υ1 υ2 m2 l2 g1 g2 c1 c2 hK zz
        refine T2_suc (fun k => by rw [x_clear]) (fun k => by rw [x_clear]) ?_
        rw [m2, l2]
        refine T2_chk (n_in (by omega) (by omega)) (n_in (by omega) (by omega)) ?_
        rw [n_cl (p := it i) (by omega), (tb _ _ g1 g2 9 _ (by omega) (by omega) (by omega)).1, (tb _ _ g1 g2 9 _ (by omega) (by omega) (by omega)).2]
        exact ih (i + 1) _ _ υ1 υ2 (by omega) (fun y => ⟨i5 y, i5 y⟩) (fun y => ⟨i6 y, i6 y⟩) g1 g2 c1 c2 hK zz
      have b2 : ∀ (q f : Nat) (x : Int32) (M1 M2 : Nat → Int32) (υ1 υ2 : MS), WN T FN f 6 O q (K - i) lc x → M1 2 = nI (it i) → M2 2 = nI (it i) → M1 3 = x → M2 3 = x → FE σ1 υ1 → FE σ2 υ2 → υ1.1 = σ1.1 → υ2.1 = σ2.1 → EI t w XC υ1 υ2 → (∀ p s, NmI T σ1 it 0 m p s → (υ1.2.2 p s = 0 ∧ υ2.2.2 p s = 0) ∨ NmP T σ1 x p s ∨ NmI T σ1 it (i + 1) m p s) → T2 (fun k => x_clear k 2 M1 υ1) (fun k => x_clear k 2 M2 υ2) (fun r1 r2 => FE σ1 r1.2 ∧ FE σ2 r2.2 ∧ r1.2.1 = σ1.1 ∧ r2.2.1 = σ2.1 ∧ EI t w XC r1.2 r2.2 ∧ ∀ p s, NmI T σ1 it 0 m p s → r1.2.2.2 p s = 0 ∧ r2.2.2.2 p s = 0) := by
        intro q
        induction q with
        | zero =>
          intro f x M1 M2 υ1 υ2 hW m2 l2 m3 l3 g1 g2 c1 c2 hK zz
          refine T2_suc (fun k => by rw [x_clear]) (fun k => by rw [x_clear]) ?_
          rw [m3, l3]
          rcases WN_6 hW with ⟨_, y⟩ | ⟨m2', n', s', f', em, _⟩
          · rw [y]
            refine T2_ite Iff.rfl (fun _ _ => b3 _ _ υ1 υ2 m2 l2 g1 g2 c1 c2 hK (fun p s hp => ?_)) (fun y _ => absurd rfl y)
            rcases zz p s hp with q1 | q1 | q1
            · exact Or.inl q1
            · rw [y] at q1; exact absurd q1 NmP_0
            · exact Or.inr q1
          · omega
        | succ q ihq =>
          intro f x M1 M2 υ1 υ2 hW m2 l2 m3 l3 g1 g2 c1 c2 hK zz
          refine T2_suc (fun k => by rw [x_clear]) (fun k => by rw [x_clear]) ?_
          rw [m3, l3]
          rcases WN_6 hW with ⟨y, _⟩ | ⟨m2', n', s', f', em, xn', hn', x6', hs', x5', W9'⟩
          · omega
          rw [xn']
          refine T2_ite Iff.rfl (fun y _ => absurd y (n_neg hn')) (fun _ _ => ?_)
          have hC' := Cx_fe hC g1
          have hC2' : Cx lc fu dp e υ2 ∧ (∀ a2 i2, NPl T υ1 n' a2 i2 → NPl T υ2 n' a2 i2) := by
            obtain ⟨_, _, _, _, _, _, _, _, _, _, hX⟩ := id hK
            have hR := hX.2.2.1
            exact ⟨Cx_ra hR hC', fun a2 i2 z => (NPl_c (hR.2.2.1 69 (by unfold AlS; omega)).symm (hR.2.2.1 67 (by unfold AlS; omega)).symm (hR.2.1 30 1 (by unfold AlR; omega) (by unfold Zn; omega) (InA_4 (by omega))).symm).mpr z⟩
          obtain ⟨pa, pi, pv, pn, pb⟩ := E_bnd (STb_fe hS g1) hK hC' hn' x6' hs' x5'.1
          refine T2_ob (pb _ _ rfl rfl) (fun u1 u2 hu => ?_)
          rw [hu.1, hu.2]
          refine T2_chk (n_in (by omega) (by omega)) (n_in (by omega) (by omega)) ?_
          have pnn := (pn pa pi).mpr ⟨rfl, rfl⟩
          have g1' := FE_tr g1 (FE_b0 (σ := υ1) pv (NPl_NU hC' x6' hs' x5'.2 pnn))
          have g2' := FE_tr g2 (FE_b0 (σ := υ2) pv (NPl_NU hC2'.1 x6' hs' x5'.2 (hC2'.2 _ _ pnn)))
          rw [n_cl (p := n') (by omega)]
          show T2 (fun k => x_clear k 2 (upd M1 3 ((mAr υ1 pa pi 0).2.2 9 n')) (mAr υ1 pa pi 0)) (fun k => x_clear k 2 (upd M2 3 ((mAr υ2 pa pi 0).2.2 9 n')) (mAr υ2 pa pi 0)) _
          rw [(tb _ _ g1' g2' 9 _ (by omega) (by omega) (by omega)).1, (tb _ _ g1' g2' 9 _ (by omega) (by omega) (by omega)).2]
          refine ihq f' (T 9 n') _ _ _ _ (by rw [show q = m2' by omega]; exact W9') m2 l2 rfl rfl g1' g2' c1 c2 (EI_bd0 hK pv) (fun p s hp => ?_)
          by_cases c : p = pa ∧ s = pi
          · rw [c.1, c.2]; exact Or.inl ⟨by rw [mAr_s, upd_same], by rw [mAr_s, upd_same]⟩
          · have ot : ∀ υ : MS, (mAr υ pa pi 0).2.2 p s = υ.2.2 p s := fun υ => by
              by_cases e : p = pa
              · subst e; rw [mAr_s, upd_other (fun y => c ⟨rfl, y⟩)]
              · rw [mAr_o e]
            rw [ot, ot]
            rcases zz p s hp with q1 | q1 | q1
            · exact Or.inl q1
            · rcases (NmP_1 hn' xn').mp q1 with q1 | q1
              · exact absurd ((pn p s).mp ((NPl_c (g1.1 69 (by unfold AlS; omega) (by decide) (by decide) (by decide)) (g1.1 67 (by unfold AlS; omega) (by decide) (by decide) (by decide)) ((FEn_b g1).2.2.1 1 (by unfold Zn; omega))).mpr q1)) c
              · exact Or.inr (Or.inl q1)
            · exact Or.inr (Or.inr q1)
      refine T2_suc (fun k => by rw [x_clear]) (fun k => by rw [x_clear]) ?_
      rw [n2, o2]
      refine T2_ite Iff.rfl (fun y _ => absurd y (n_neg i1)) (fun _ _ => ?_)
      refine T2_chk (n_in (by omega) (by omega)) (n_in (by omega) (by omega)) ?_
      rw [n_cl (p := it i) (by omega), (tb _ _ f1 f2 6 _ (by omega) (by omega) (by omega)).1, (tb _ _ f1 f2 6 _ (by omega) (by omega) (by omega)).2]
      refine b2 iq ifl (T 6 (it i)) _ _ τ1 τ2 W6 n2 o2 rfl rfl f1 f2 s1 s2 hJ (fun p s hp => ?_)
      rcases zz p s hp with q1 | ⟨j, j1, j2, q1⟩
      · exact Or.inl q1
      · by_cases c : j = i
        · subst c; exact Or.inr (Or.inl q1)
        · exact Or.inr (Or.inr ⟨j, by omega, j2, q1⟩)
  refine T2_suc (fun k => by rw [x_clear]) (fun k => by rw [x_clear]) ?_
  exact b1 m 0 _ _ σ1 σ2 (by omega) (fun _ => ⟨d1, d2⟩) (fun y => by omega) FE_rf FE_rf rfl rfl hI (fun p s hp => Or.inr hp)
end ECL
