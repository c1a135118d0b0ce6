/-! Evaluation on both sides (reference): calls of functions. -/
def Fc (j : Nat) : Prop := j = 67 ∨ j = 68 ∨ j = 69 ∨ j = 97
/-- a frame's places from i on -/
def Fr (lb i a j : Nat) : Prop := a = 33 ∧ lb + i ≤ j ∧ j < lb + 60
/-- what stays, but for the numbers of a function's call -/
def FRn (N : Nat → Nat → Prop) (σ ρ : MS) : Prop := (∀ j, AlS j → j ≠ 57 → j ≠ 59 → j ≠ 95 → ¬ Fc j → ρ.1 j = σ.1 j) ∧ (∀ a i, AlR a → ¬ Zn a i → ¬ ((a = 35 ∨ a = 50) ∧ (σ.1 72).toNatClampNeg ≤ i) → ρ.2.2 a i = σ.2.2 a i) ∧ ρ.2.2 2 = σ.2.2 2 ∧ KPn N σ ρ
section ECA
variable {T : Nat → Nat → Int32} {FN : Nat → Nat → Prop} {O r K d t u w XC : Nat} {lc : Nat → Prop} {σ σ1 σ2 τ τ1 τ2 ρ : MS} {N : Nat → Nat → Prop}
theorem FR_fen (h : FEn N σ ρ) : FRn N σ ρ := ⟨fun j a b c d _ => h.1 j a b c d, h.2.1, h.2.2.1, h.2.2.2⟩
theorem FR_fe (h : FE σ ρ) : FRn N σ ρ := FR_fen (FE_n h)
theorem FR_b (a : FRn N σ τ) : FB0 σ τ := ⟨a.1 63 (by unfold AlS; omega) (by decide) (by decide) (by decide) (by unfold Fc; omega), kC_c (fun i => a.2.1 20 i (by unfold AlR; omega) (by unfold Zn; omega) (by omega)) (fun i _ => a.2.1 21 i (by unfold AlR; omega) (by unfold Zn; omega) (by omega)) (a.1 30 (by unfold AlS; omega) (by decide) (by decide) (by decide) (by unfold Fc; omega)), fun i h => a.2.1 30 i (by unfold AlR; omega) h (by omega), fun i h => a.2.1 31 i (by unfold AlR; omega) h (by omega)⟩
theorem FR_tr (a : FRn N σ τ) (b : FRn N τ ρ) : FRn N σ ρ := by
  have e : τ.1 72 = σ.1 72 := a.1 72 (by unfold AlS; omega) (by decide) (by decide) (by decide) (by unfold Fc; omega)
  refine ⟨fun j h1 h2 h3 h4 h5 => (b.1 j h1 h2 h3 h4 h5).trans (a.1 j h1 h2 h3 h4 h5), fun x i h1 h2 h3 => ?_, b.2.2.1.trans a.2.2.1, KPn_tr (FR_b a) a.2.2.2 b.2.2.2⟩
  rw [b.2.1 x i h1 h2 (by rw [e]; exact h3), a.2.1 x i h1 h2 h3]
theorem FR_sc {j : Nat} {x : Int32} (hj : Fc j) : FRn N σ (mSc σ j x) := ⟨fun i _ _ _ _ h => upd_other (fun e => h (e ▸ hj)), fun _ _ _ _ _ => rfl, rfl, KPn_same rfl (fun _ _ => rfl)⟩
theorem FE_fr (h : FRn N σ ρ) (hN : ∀ a i, ¬ N a i) (h67 : ρ.1 67 = σ.1 67) (h68 : ρ.1 68 = σ.1 68) (h69 : ρ.1 69 = σ.1 69) (h97 : ρ.1 97 = σ.1 97) : FE σ ρ := by
  refine ⟨fun j a b c d => ?_, h.2.1, h.2.2.1, KPn_mo (fun a i z => hN a i z) h.2.2.2⟩
  by_cases e : Fc j
  · rcases e with e | e | e | e
    · rw [e]; exact h67
    · rw [e]; exact h68
    · rw [e]; exact h69
    · rw [e]; exact h97
  · exact h.1 j a b c d e
/-- one place of a frame is emptied -/
theorem FR_z {lb i : Nat} (h : FRn (Fr lb i) σ ρ) : FRn (Fr lb (i + 1)) σ (mAr ρ 33 (lb + i) 0) := by
  obtain ⟨h1, h2, h3, h4⟩ := h
  refine ⟨h1, fun a j ha hz hx => ?_, (mAr_o (by decide)).trans h3, fun a j hr hn => ?_⟩
  · rw [mAr_o (fun e => hz (by rw [e]; exact Or.inl rfl))]; exact h2 a j ha hz hx
  · by_cases c : a = 33 ∧ j = lb + i
    · rw [c.1, c.2]; exact Or.inr ⟨by rw [mAr_s, upd_same], Or.inl rfl⟩
    · have ot : (mAr ρ 33 (lb + i) 0).2.2 a j = ρ.2.2 a j := by
        by_cases e : a = 33
        · subst e; rw [mAr_s, upd_other (fun z => c ⟨rfl, z⟩)]
        · rw [mAr_o e]
      have := h4 a j hr (fun z => hn (by unfold Fr at z ⊢; omega))
      unfold szV SVb at this ⊢
      rw [ot, mAr_o (by decide)]; exact this
theorem STb_fr (hS : STb T FN σ) (hF : FRn N σ ρ) : STb T FN ρ := STb_b hS (fun j hj => hF.1 j (by unfold AlS; omega) (by omega) (by omega) (by omega) (by unfold Fc; omega)) (fun a i h => hF.2.1 a i (by unfold AlR; omega) (by unfold Zn; omega) (fun z => by omega))
theorem EI_sc {j : Nat} {x : Int32} (hj : Fc j) (hE : EI t w XC σ1 σ2) : EI t w XC (mSc σ1 j x) (mSc σ2 j x) := by
  obtain ⟨g1, l1, B1, h1, X1, g2, l2, B2, h2, X2, m1, m2, hR, i1, i2, t1, e1, e2, w1, hw, x1, x2, y, a, a1, a2⟩ := hE
  have n : ∀ {i : Nat}, ¬ Fc i → ∀ σ : MS, (mSc σ j x).1 i = σ.1 i := fun h σ => upd_other (fun e => h (e ▸ hj))
  have c1 : ∀ σ : MS, (mSc σ j x).1 54 = σ.1 54 := n (by unfold Fc; omega)
  have c2 : ∀ σ : MS, (mSc σ j x).1 55 = σ.1 55 := n (by unfold Fc; omega)
  have c3 : ∀ σ : MS, (mSc σ j x).1 63 = σ.1 63 := n (by unfold Fc; omega)
  have c4 : ∀ σ : MS, (mSc σ j x).1 72 = σ.1 72 := n (by unfold Fc; omega)
  have c22 : ∀ σ : MS, (mSc σ j x).1 22 = σ.1 22 := n (by unfold Fc; omega)
  have c24 : ∀ σ : MS, (mSc σ j x).1 24 = σ.1 24 := n (by unfold Fc; omega)
  refine ⟨g1, l1, B1, h1, X1, g2, l2, B2, h2, X2, MI_c m1 (c1 _) (c2 _) (c3 _) (c4 _) rfl, MI_c m2 (c1 _) (c2 _) (c3 _) (c4 _) rfl, RA_c hR rfl rfl (c3 _) (c4 _) (c22 _) (c24 _) (n (i := 30) (by unfold Fc; omega) _) (n (i := 44) (by unfold Fc; omega) _) (fun i hi => ?_) hR.2.2.2, IT_c (c4 _) rfl rfl rfl i1, IT_c (c4 _) rfl rfl rfl i2, (n (i := 59) (by unfold Fc; omega) _).trans t1, (n (i := 56) (by unfold Fc; omega) _).trans e1, (n (i := 56) (by unfold Fc; omega) _).trans e2, (n (i := 57) (by unfold Fc; omega) _).trans w1, hw, x1, x2, y, a, (n (i := 95) (by unfold Fc; omega) _).trans a1, a2⟩
  show upd σ1.1 j x i = upd σ2.1 j x i
  by_cases e : i = j
  · rw [e, upd_same, upd_same]
  · rw [upd_other e, upd_other e]; exact hR.2.2.1 i hi
theorem EZ_sc {a b j : Nat} {x : Int32} (hj : Fc j) (h : EZ a b σ) : EZ a b (mSc σ j x) := by
  obtain ⟨g, l, B, h', t, m, c1, c2, c3, c4, c5, ⟨w, c6, c6'⟩, ⟨c, c7, c8⟩⟩ := h
  have n : ∀ {i : Nat}, ¬ Fc i → (mSc σ j x).1 i = σ.1 i := fun h => upd_other (fun e => h (e ▸ hj))
  refine ⟨g, l, B, h', t, MI_c m (n (by unfold Fc; omega)) (n (by unfold Fc; omega)) (n (by unfold Fc; omega)) (n (by unfold Fc; omega)) rfl, (n (by unfold Fc; omega)).trans c1, c2, c3, ?_, ErB_c (n (by unfold Fc; omega)) c5, ⟨w, (n (by unfold Fc; omega)).trans c6, c6'⟩, ⟨c, (n (by unfold Fc; omega)).trans c7, c8⟩⟩
  rw [n (i := 56) (by unfold Fc; omega)]; exact c4
/-- what lies at the top is counted as an answer -/
theorem E_ansT (hXC : XC ≤ 408500) (ht : t ≤ 176000) (hE : EI (t + 1) w XC σ1 σ2) : T2 (fun k => x_answer k 0 (upd (fun _ => 0) 1 (σ1.2.2 29 t)) σ1) (fun k => x_answer k 0 (upd (fun _ => 0) 1 (σ2.2.2 29 t)) σ2) (fun r1 r2 => FE σ1 r1.2 ∧ FE σ2 r2.2 ∧ ((∃ w', w ≤ w' ∧ EI (t + 1) w' XC r1.2 r2.2) ∨ (EZ t (t + 1) r1.2 ∧ EZ t (t + 1) r2.2))) := by
  obtain ⟨g1, l1, B1, h1, X1, g2, l2, B2, h2, X2, m1, m2, hR, i1, i2, t1, e1, e2, w1, hw, x1, x2, ⟨ty1, ty2⟩, a, a1, a2⟩ := hE
  have al : ∀ j, AlS j → σ2.1 j = σ1.1 j := fun j h => (hR.2.2.1 j h).symm
  have w2 : σ2.1 57 = nI w := (al 57 (by unfold AlS; omega)).trans w1
  have t2 : σ2.1 59 = nI (t + 1) := (al 59 (by unfold AlS; omega)).trans t1
  have a3 : σ2.1 95 = nI a := (al 95 (by unfold AlS; omega)).trans a1
  obtain ⟨c, d, cc1, cc2, cc3, cc4, cc5, cc6, cc7⟩ := hR.1 29 t (Or.inl ⟨rfl, by omega⟩) (by unfold VwR; omega)
  refine T2_mono (T2_of (s_answer m1.1 cc2 w1 (by omega) (by exact cc1)) (s_answer m2.1 cc4 w2 (by omega) (by exact cc3)) (fun n => Pm_wl (fun k => wl_answer k _ _ _) (fun k => wl_answer k _ _ _) (k_answer m1.1 m2.1 cc2 cc4 cc5 e1 e2 w1 w2 (by omega) (by exact cc1) (by exact cc3)))) (fun z1 z2 hz => ?_)
  obtain ⟨⟨⟨y1, y2, y3, y4⟩, wl1, wl2⟩, _, _⟩ := hz
  have ys1 : ∀ j, j ≠ 56 → j ≠ 57 → z1.2.1 j = σ1.1 j := fun j q1 q2 => WkO_s y3 q1 q2
  have ys2 : ∀ j, j ≠ 56 → j ≠ 57 → z2.2.1 j = σ2.1 j := fun j q1 q2 => WkO_s y4 q1 q2
  have n1 : MI (t + 1) X1 g1 l1 B1 h1 z1.2 := MI_c m1 (ys1 54 (by decide) (by decide)) (ys1 55 (by decide) (by decide)) (ys1 63 (by decide) (by decide)) (ys1 72 (by decide) (by decide)) (WkO_a y3)
  have n2 : MI (t + 1) X2 g2 l2 B2 h2 z2.2 := MI_c m2 (ys2 54 (by decide) (by decide)) (ys2 55 (by decide) (by decide)) (ys2 63 (by decide) (by decide)) (ys2 72 (by decide) (by decide)) (WkO_a y4)
  have sz := szN_b m1.1 cc2
  refine ⟨FE_wk y3, FE_wk y4, ?_⟩
  by_cases le : w + szN (σ1.2.2 28) c ≤ 60000
  · have zr1 := (WkO_er e1 y3).mpr le
    have zr2 := (WkO_er e2 y4).mpr le
    have y57 : z1.2.1 57 = nI (w + szN (σ1.2.2 28) c) := WkO_57 y3
    have z57 : z2.2.1 57 = nI (w + szN (σ1.2.2 28) c) := WkO_57 y4
    refine Or.inl ⟨w + szN (σ1.2.2 28) c, by omega, g1, l1, B1, h1, X1, g2, l2, B2, h2, X2, n1, n2, RA_c hR (WkO_a y3) (WkO_a y4) (ys1 63 (by decide) (by decide)) (ys1 72 (by decide) (by decide)) (ys1 22 (by decide) (by decide)) (ys1 24 (by decide) (by decide)) (ys1 30 (by decide) (by decide)) (ys1 44 (by decide) (by decide)) (fun j hj => ?_) (by rw [wl1, wl2]; exact hR.2.2.2), IT_c (ys1 72 (by decide) (by decide)) (congrFun (WkO_a y3) 34) (congrFun (WkO_a y3) 35) (congrFun (WkO_a y3) 28) i1, IT_c (ys2 72 (by decide) (by decide)) (congrFun (WkO_a y4) 34) (congrFun (WkO_a y4) 35) (congrFun (WkO_a y4) 28) i2, (ys1 59 (by decide) (by decide)).trans t1, zr1, zr2, y57, ⟨le, hw.2⟩, by omega, by omega, ⟨by rw [congrFun (WkO_a y3) 2]; exact ty1, by rw [congrFun (WkO_a y3) 2, congrFun (WkO_a y4) 2]; exact ty2⟩, a, (ys1 95 (by decide) (by decide)).trans a1, a2⟩
    by_cases e57 : j = 57
    · rw [e57, y57, z57]
    · rw [ys1 j (by unfold AlS at hj; omega) e57, ys2 j (by unfold AlS at hj; omega) e57]
      exact hR.2.2.1 j hj
  · have zr1 : ¬ z1.2.1 56 = 0 := fun y => le ((WkO_er e1 y3).mp y)
    have zr2 : ¬ z2.2.1 56 = 0 := fun y => le ((WkO_er e2 y4).mp y)
    have y57 : z1.2.1 57 = nI (w + szN (σ1.2.2 28) c) := WkO_57 y3
    have z57 : z2.2.1 57 = nI (w + szN (σ1.2.2 28) c) := WkO_57 y4
    exact Or.inr ⟨⟨g1, l1, B1, h1, t + 1, MI_X n1 (by omega), (ys1 59 (by decide) (by decide)).trans t1, by omega, Nat.le_refl _, zr1, WkO_E y3 ⟨0, e1, by decide⟩, ⟨_, y57, by omega⟩, ⟨a, (ys1 95 (by decide) (by decide)).trans a1, a2⟩⟩, ⟨g2, l2, B2, h2, t + 1, MI_X n2 (by omega), (ys2 59 (by decide) (by decide)).trans t2, by omega, Nat.le_refl _, zr2, WkO_E y4 ⟨0, e2, by decide⟩, ⟨_, z57, by omega⟩, ⟨a, (ys2 95 (by decide) (by decide)).trans a3, a2⟩⟩⟩
/-- behind the body of a function: frames are emptied, numbers restored, the answer counted -/
theorem b_callE {n c e t w w0 lb fu dp : Nat} {x68 x69 : Int32} {σ1 σ2 : MS} (hXC : XC ≤ 408500) (ht : t ≤ 174000) (hn : (1 ≤ n ∧ n < LNo T % 70001)) (hc : c ≤ 60) (hfu : fu ≤ 20) (hdp : dp ≤ 60) (hlb : lb + 60 ≤ 1380) (tc : ∀ (N : Nat → Nat → Prop) (ρ1 ρ2 : MS), FRn N σ1 ρ1 → FRn N σ2 ρ2 → ρ1.2.2 8 n = nI c ∧ ρ2.2.2 8 n = nI c) (s67 : σ1.1 67 = nI fu) (u67 : σ2.1 67 = nI fu) (s97 : σ1.1 97 = nI dp) (u97 : σ2.1 97 = nI dp) (s68 : σ1.1 68 = x68) (u68 : σ2.1 68 = x68) (s69 : σ1.1 69 = x69) (u69 : σ2.1 69 = x69) (hx : x69 = 0 ∨ x69 = 1) {N1 N2 : Nat → Int32} {τ1 τ2 : MS} (n1 : N1 1 = nI n) (o1 : N2 1 = nI n) (n4 : N1 4 = x68) (o4 : N2 4 = x68) (n5 : N1 5 = x69) (o5 : N2 5 = x69) (n6 : N1 6 = 0) (o6 : N2 6 = 0) (f1 : FRn (Fr lb 0) σ1 τ1) (f2 : FRn (Fr lb 0) σ2 τ2) (q67 : τ1.1 67 = nI (fu + 1)) (p67 : τ2.1 67 = nI (fu + 1)) (q97 : τ1.1 97 = nI (dp + c)) (p97 : τ2.1 97 = nI (dp + c)) (q68 : τ1.1 68 = nI lb) (p68 : τ2.1 68 = nI lb) (h : (w ≤ w0 ∧ EI (t + 1) w0 XC τ1 τ2) ∨ (EZ t (178000 + e) τ1 ∧ EZ t (178000 + e) τ2)) : T2 (fun k => x_GV k (e + 1) 2 16 N1 τ1) (fun k => x_GV k (e + 1) 2 16 N2 τ2) (EQ (178000 + (e + 1)) t w XC σ1 σ2) := by
  have b23 : ∀ (M1 M2 : Nat → Int32) (v1 v2 : MS), EQ (178000 + (e + 1)) t w XC σ1 σ2 (0, v1) (0, v2) → T2 (fun k => x_GV k (e + 1) 2 23 M1 v1) (fun k => x_GV k (e + 1) 2 23 M2 v2) (EQ (178000 + (e + 1)) t w XC σ1 σ2) := fun M1 M2 v1 v2 h => by
    refine T2_suc (fun k => e_callFunc_23 k _ _ _) (fun k => e_callFunc_23 k _ _ _) ?_
    exact T2_some h
  have b22 : ∀ (M1 M2 : Nat → Int32) (υ1 υ2 : MS), FE σ1 υ1 → FE σ2 υ2 → ((w ≤ w0 ∧ EI (t + 1) w0 XC υ1 υ2) ∨ (EZ t (178000 + e) υ1 ∧ EZ t (178000 + e) υ2)) → T2 (fun k => x_GV k (e + 1) 2 22 M1 υ1) (fun k => x_GV k (e + 1) 2 22 M2 υ2) (EQ (178000 + (e + 1)) t w XC σ1 σ2) := by
    intro M1 M2 υ1 υ2 k1 k2 h
    refine T2_suc (fun k => e_callFunc_22 k _ _ _) (fun k => e_callFunc_22 k _ _ _) ?_
    rcases h with ⟨hw, hJ⟩ | ⟨z1, z2⟩
    · obtain ⟨e1, e2⟩ := EI_e hJ
      obtain ⟨p1, p2⟩ := EI_59 hJ
      rw [e1, e2, p1, p2, show nI (t + 1) - 1 = nI t from n_sub (p := t + 1) (q := 1) (by omega) (by omega)]
      refine T2_ite Iff.rfl (fun _ _ => ?_) (fun z _ => absurd rfl z)
      refine T2_chk (n_in (by omega) (by omega)) (n_in (by omega) (by omega)) ?_
      rw [n_cl (p := t) (by omega)]
      refine T2_ob (E_ansT hXC (by omega) hJ) (fun r1 r2 hr => ?_)
      obtain ⟨g1, g2, hr⟩ := hr
      refine b23 _ _ _ _ ⟨FE_tr k1 g1, FE_tr k2 g2, ?_⟩
      rcases hr with ⟨w', hw', hr⟩ | ⟨z1, z2⟩
      · exact Or.inl ⟨w', by omega, hr⟩
      · exact Or.inr ⟨EZ_mo z1 (Nat.le_refl _) (by omega), EZ_mo z2 (Nat.le_refl _) (by omega)⟩
    · refine T2_ite ⟨fun z => absurd z (EZ_e z1), fun z => absurd z (EZ_e z2)⟩ (fun z _ => absurd z (EZ_e z1)) (fun _ _ => ?_)
      exact b23 _ _ _ _ ⟨k1, k2, Or.inr ⟨EZ_mo z1 (Nat.le_refl _) (by omega), EZ_mo z2 (Nat.le_refl _) (by omega)⟩⟩
  have sc : ∀ (j : Nat) (x : Int32) (υ1 υ2 : MS), Fc j → ((w ≤ w0 ∧ EI (t + 1) w0 XC υ1 υ2) ∨ (EZ t (178000 + e) υ1 ∧ EZ t (178000 + e) υ2)) → ((w ≤ w0 ∧ EI (t + 1) w0 XC (mSc υ1 j x) (mSc υ2 j x)) ∨ (EZ t (178000 + e) (mSc υ1 j x) ∧ EZ t (178000 + e) (mSc υ2 j x))) := fun j x υ1 υ2 hj h => h.imp (fun z => ⟨z.1, EI_sc hj z.2⟩) (fun z => ⟨EZ_sc hj z.1, EZ_sc hj z.2⟩)
  have b18 : ∀ (M1 M2 : Nat → Int32) (υ1 υ2 : MS), M1 1 = nI n → M2 1 = nI n → M1 4 = x68 → M2 4 = x68 → M1 5 = x69 → M2 5 = x69 → FRn (Fr lb 60) σ1 υ1 → FRn (Fr lb 60) σ2 υ2 → υ1.1 67 = nI (fu + 1) → υ2.1 67 = nI (fu + 1) → υ1.1 97 = nI (dp + c) → υ2.1 97 = nI (dp + c) → ((w ≤ w0 ∧ EI (t + 1) w0 XC υ1 υ2) ∨ (EZ t (178000 + e) υ1 ∧ EZ t (178000 + e) υ2)) → T2 (fun k => x_GV k (e + 1) 2 18 M1 υ1) (fun k => x_GV k (e + 1) 2 18 M2 υ2) (EQ (178000 + (e + 1)) t w XC σ1 σ2) := by
    intro M1 M2 υ1 υ2 m1 l1 m4 l4 m5 l5 k1 k2 h67 h67' h97 h97' h
    refine T2_suc (fun k => e_callFunc_18 k _ _ _) (fun k => e_callFunc_18 k _ _ _) ?_
    rw [h67, h67', show nI (fu + 1) - 1 = nI fu from n_sub (p := fu + 1) (q := 1) (by omega) (by omega)]
    show T2 (fun k => x_GV k (e + 1) 2 19 M1 (mSc υ1 67 (nI fu))) (fun k => x_GV k (e + 1) 2 19 M2 (mSc υ2 67 (nI fu))) _
    have k1 := FR_tr k1 (FR_sc (x := nI fu) (show Fc 67 by unfold Fc; omega))
    have k2 := FR_tr k2 (FR_sc (x := nI fu) (show Fc 67 by unfold Fc; omega))
    have h := sc 67 (nI fu) υ1 υ2 (by unfold Fc; omega) h
    have g97 : (mSc υ1 67 (nI fu)).1 97 = nI (dp + c) := h97
    have g97' : (mSc υ2 67 (nI fu)).1 97 = nI (dp + c) := h97'
    have g67 : (mSc υ1 67 (nI fu)).1 67 = nI fu := rfl
    have g67' : (mSc υ2 67 (nI fu)).1 67 = nI fu := rfl
    generalize mSc υ1 67 (nI fu) = α1 at k1 h g97 g67
    generalize mSc υ2 67 (nI fu) = α2 at k2 h g97' g67'
    refine T2_suc (fun k => e_callFunc_19 k _ _ _) (fun k => e_callFunc_19 k _ _ _) ?_
    rw [m1, l1]
    refine T2_chk (n_in (by omega) (by omega)) (n_in (by omega) (by omega)) ?_
    rw [n_cl (p := n) (by omega), (tc _ _ _ k1 k2).1, (tc _ _ _ k1 k2).2, g97, g97', n_sub (p := dp + c) (q := c) (by omega) (by omega), Nat.add_sub_cancel]
    show T2 (fun k => x_GV k (e + 1) 2 20 M1 (mSc α1 97 (nI dp))) (fun k => x_GV k (e + 1) 2 20 M2 (mSc α2 97 (nI dp))) _
    refine T2_suc (fun k => e_callFunc_20 k _ _ _) (fun k => e_callFunc_20 k _ _ _) ?_
    rw [m4, l4]
    show T2 (fun k => x_GV k (e + 1) 2 21 M1 (mSc (mSc α1 97 (nI dp)) 68 x68)) (fun k => x_GV k (e + 1) 2 21 M2 (mSc (mSc α2 97 (nI dp)) 68 x68)) _
    refine T2_suc (fun k => e_callFunc_21 k _ _ _) (fun k => e_callFunc_21 k _ _ _) ?_
    rw [m5, l5]
    refine T2_chk hx hx ?_
    show T2 (fun k => x_GV k (e + 1) 2 22 M1 (mSc (mSc (mSc α1 97 (nI dp)) 68 x68) 69 x69)) (fun k => x_GV k (e + 1) 2 22 M2 (mSc (mSc (mSc α2 97 (nI dp)) 68 x68) 69 x69)) _
    have h := sc 69 x69 _ _ (by unfold Fc; omega) (sc 68 x68 _ _ (by unfold Fc; omega) (sc 97 (nI dp) _ _ (by unfold Fc; omega) h))
    have k1 := FR_tr (FR_tr (FR_tr k1 (FR_sc (x := nI dp) (show Fc 97 by unfold Fc; omega))) (FR_sc (x := x68) (show Fc 68 by unfold Fc; omega))) (FR_sc (x := x69) (show Fc 69 by unfold Fc; omega))
    have k2 := FR_tr (FR_tr (FR_tr k2 (FR_sc (x := nI dp) (show Fc 97 by unfold Fc; omega))) (FR_sc (x := x68) (show Fc 68 by unfold Fc; omega))) (FR_sc (x := x69) (show Fc 69 by unfold Fc; omega))
    exact b22 _ _ _ _ (FE_fr k1 (fun a i z => by unfold Fr at z; omega) (g67.trans s67.symm) s68.symm s69.symm s97.symm) (FE_fr k2 (fun a i z => by unfold Fr at z; omega) (g67'.trans u67.symm) u68.symm u69.symm u97.symm) h
  have b16 : ∀ (q i : Nat) (M1 M2 : Nat → Int32) (υ1 υ2 : MS), q + i = 60 → M1 1 = nI n → M2 1 = nI n → M1 4 = x68 → M2 4 = x68 → M1 5 = x69 → M2 5 = x69 → M1 6 = nI i → M2 6 = nI i → FRn (Fr lb i) σ1 υ1 → FRn (Fr lb i) σ2 υ2 → υ1.1 67 = nI (fu + 1) → υ2.1 67 = nI (fu + 1) → υ1.1 97 = nI (dp + c) → υ2.1 97 = nI (dp + c) → υ1.1 68 = nI lb → υ2.1 68 = nI lb → ((w ≤ w0 ∧ EI (t + 1) w0 XC υ1 υ2) ∨ (EZ t (178000 + e) υ1 ∧ EZ t (178000 + e) υ2)) → T2 (fun k => x_GV k (e + 1) 2 16 M1 υ1) (fun k => x_GV k (e + 1) 2 16 M2 υ2) (EQ (178000 + (e + 1)) t w XC σ1 σ2) := by
    intro q
    induction q with
    | zero =>
      intro i M1 M2 υ1 υ2 hi m1 l1 m4 l4 m5 l5 m6 l6 k1 k2 h67 h67' h97 h97' h68 h68' h
      have e60 : i = 60 := by omega
      subst e60
      refine T2_suc (fun k => e_callFunc_16 k _ _ _) (fun k => e_callFunc_16 k _ _ _) ?_
      rw [m6, l6]
      exact T2_ite Iff.rfl (fun _ _ => b18 M1 M2 υ1 υ2 m1 l1 m4 l4 m5 l5 k1 k2 h67 h67' h97 h97' h) (fun z _ => absurd ((n_le (p := 60) (by decide) (by omega)).mpr (by omega)) z)
    | succ q ih =>
      intro i M1 M2 υ1 υ2 hi m1 l1 m4 l4 m5 l5 m6 l6 k1 k2 h67 h67' h97 h97' h68 h68' h
      refine T2_suc (fun k => e_callFunc_16 k _ _ _) (fun k => e_callFunc_16 k _ _ _) ?_
      rw [m6, l6, h68, h68', n_add (p := lb) (by omega)]
      refine T2_ite Iff.rfl (fun z _ => absurd ((n_le (p := 60) (by decide) (by omega)).mp z) (by omega)) (fun _ _ => ?_)
      refine T2_chk (n_in (by omega) (by omega)) (n_in (by omega) (by omega)) ?_
      rw [n_cl (p := lb + i) (by omega)]
      have pv : PlV 33 (lb + i) := Or.inr ⟨rfl, by omega⟩
      show T2 (fun k => x_GV k (e + 1) 2 17 M1 (mAr υ1 33 (lb + i) 0)) (fun k => x_GV k (e + 1) 2 17 M2 (mAr υ2 33 (lb + i) 0)) _
      refine T2_suc (fun k => e_callFunc_17 k _ _ _) (fun k => e_callFunc_17 k _ _ _) ?_
      rw [m6, l6, n_add1]
      exact ih (i + 1) _ _ _ _ (by omega) m1 l1 m4 l4 m5 l5 rfl rfl (FR_z k1) (FR_z k2) h67 h67' h97 h97' h68 h68' (h.imp (fun z => ⟨z.1, EI_bd0 z.2 pv⟩) (fun z => ⟨EZ_bd0 z.1 pv, EZ_bd0 z.2 pv⟩))
  exact b16 60 0 N1 N2 τ1 τ2 (by omega) n1 o1 n4 o4 n5 o5 n6 o6 f1 f2 q67 p67 q97 p97 q68 p68 h
end ECA
