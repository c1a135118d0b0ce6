theorem kC_z {σ : MS} {i : Nat} (h : σ.2.2 20 i = 0) : kC σ i = 0 := by
  unfold kC
  split
  · rfl
  · exact h
/-! A statement is begun on both sides (reference): its end, an error. -/
theorem mAr_i2 {σ : MS} {a i : Nat} {x : Int32} (h : σ.2.2 a i = x) : mAr σ a i x = σ := by
  have e := mAr_same (σ := σ) h
  show (σ.1, σ.2.1, (mAr σ a i x).2.2) = σ
  rw [e]
theorem mEr_id {σ : MS} {e : Int32} (h : ¬ σ.1 56 = 0) : mEr σ e = σ := by
  have : upd σ.1 56 (if σ.1 56 = 0 then e else σ.1 56) = σ.1 := by
    rw [if_neg h]
    funext i
    by_cases c : i = 56
    · rw [c, upd_same]
    · rw [upd_other c]
  show (upd σ.1 56 (if σ.1 56 = 0 then e else σ.1 56), σ.2.1, σ.2.2) = σ
  rw [this]
theorem EZ_s2 {a b j : Nat} {σ : MS} {x : Int32} (hj : ¬ (j = 54 ∨ j = 55 ∨ j = 56 ∨ j = 57 ∨ j = 59 ∨ j = 63 ∨ j = 72 ∨ j = 95)) (h : EZ a b σ) : EZ a b (mSc σ j x) := by
  obtain ⟨g, l, B, h', t, hM, h59, ha, hb, he, hE, ⟨w, w1, w2⟩, ⟨c, c1, c2⟩⟩ := h
  have o : ∀ i, i ≠ j → (mSc σ j x).1 i = σ.1 i := fun i hi => upd_other hi
  refine ⟨g, l, B, h', t, MI_c hM (o 54 (by omega)) (o 55 (by omega)) (o 63 (by omega)) (o 72 (by omega)) rfl, (o 59 (by omega)).trans h59, ha, hb, ?_, ErB_c (o 56 (by omega)) hE, ⟨w, (o 57 (by omega)).trans w1, w2⟩, ⟨c, (o 95 (by omega)).trans c1, c2⟩⟩
  rw [o 56 (by omega)]; exact he
section FGT
variable {σ : MS}
/-- what an error leaves to be forgotten is om already -/
theorem s_forget (hU : UT σ) (L : Nat → Int32) : Tm (fun k => x_forget k 0 L σ) (fun r => r = (0, σ)) := by
  obtain ⟨h64, P, h63, hP, h65, h32, hl, o1, o2, o3, ⟨c, c1, c2, c3⟩, o5⟩ := hU
  have c1 : σ.2.2 30 1 = nI c := c1
  have b15 : ∀ N : Nat → Int32, Tm (fun k => x_forget k 15 N σ) (fun r => r = (0, σ)) := fun N => Tm_suc (fun k => by rw [x_forget]) (Tm_some rfl)
  have st1 : ∀ s, s < 60 → StI (σ.2.2 30) 0 (4 + s) := fun s hs => Or.inl ⟨by omega, by omega⟩
  have st2 : ∀ j s, j < c → s < 60 → StI (σ.2.2 30) 0 (214 + 60 * j + s) := fun j s hj hs => by
    refine Or.inr (Or.inl ?_)
    rw [show (0 + 1) = 1 from rfl, c1, n_cl (p := c) (by omega)]; omega
  have b9 : ∀ (d j : Nat) (N : Nat → Int32), d + j = c → N 1 = nI j → Tm (fun k => x_forget k 9 N σ) (fun r => r = (0, σ)) := by
    intro d
    induction d with
    | zero =>
      intro j N hd n1
      have ej : j = c := by omega
      refine Tm_suc (fun k => by rw [x_forget]) ?_
      refine Tm_chk (by decide) ?_
      rw [show (1 : Int32).toNatClampNeg = 1 from by decide, c1, n1, ej]
      exact Tm_ite (fun _ => b15 _) (fun z => absurd (Int32.le_refl _) z)
    | succ d ih =>
      intro j N hd n1
      obtain ⟨pr, p1, p2⟩ := c3 j (by omega)
      have p1 : σ.2.2 30 (65 + 3 * j) = nI pr := by rw [Nat.zero_add] at p1; exact p1
      have e65 : (64 : Int32) + 3 * nI j + 1 = nI (65 + 3 * j) := by
        rw [show (3 : Int32) * nI j = nI (3 * j) from n_mulN 3 j, show (64 : Int32) + nI (3 * j) = nI (64 + 3 * j) from n_add (p := 64) (by omega), n_add1]; congr 1; omega
      have e60 : (60 : Int32) * (1 + nI pr) = nI (60 * (1 + pr)) := by
        rw [show (1 : Int32) + nI pr = nI (1 + pr) from n_add (p := 1) (by omega)]; exact n_mulN 60 (1 + pr)
      have b10 : ∀ (f s : Nat) (M : Nat → Int32), f + s = 60 → M 1 = nI j → M 2 = nI (60 * (1 + pr)) → M 3 = nI s → Tm (fun k => x_forget k 10 M σ) (fun r => r = (0, σ)) := by
        intro f
        induction f with
        | zero =>
          intro s M hf m1 m2 m3
          have es : s = 60 := by omega
          subst es
          refine Tm_suc (fun k => by rw [x_forget]) ?_
          rw [m3]
          refine Tm_ite (fun _ => ?_) (fun z => absurd ((n_le (p := 60) (q := 60) (by decide) (by decide)).mpr (Nat.le_refl _)) z)
          refine Tm_suc (fun k => by rw [x_forget]) ?_
          rw [m1, n_add1]
          exact ih (j + 1) _ (by omega) rfl
        | succ f ihf =>
          intro s M hf m1 m2 m3
          have e214 : (214 : Int32) + 60 * nI j + nI s = nI (214 + 60 * j + s) := by
            rw [show (60 : Int32) * nI j = nI (60 * j) from n_mulN 60 j, show (214 : Int32) + nI (60 * j) = nI (214 + 60 * j) from n_add (p := 214) (by omega), n_add (by omega)]
          have b12 : ∀ (J : Nat → Int32), J 1 = nI j → J 2 = nI (60 * (1 + pr)) → J 3 = nI s → J 100 = σ.2.2 30 (214 + 60 * j + s) → J 101 = nI (214 + 60 * j + s) → Tm (fun k => x_forget k 12 J σ) (fun r => r = (0, σ)) := by
            intro J j1 j2 j3 j100 j101
            refine Tm_suc (fun k => by rw [x_forget]) ?_
            rw [j101, j100]
            refine Tm_chk (n_in (by omega) (by omega)) ?_
            rw [n_cl (p := 214 + 60 * j + s) (by omega)]
            show Tm (fun k => x_forget k 13 J (mAr σ 30 (214 + 60 * j + s) (σ.2.2 30 (214 + 60 * j + s)))) _
            rw [mAr_i2 rfl]
            refine Tm_suc (fun k => by rw [x_forget]) ?_
            rw [j3, n_add1]
            exact ihf (s + 1) _ (by omega) j1 j2 rfl
          refine Tm_suc (fun k => by rw [x_forget]) ?_
          rw [m3, m2, m1, n_add (p := 60 * (1 + pr)) (by omega), e214]
          refine Tm_ite (fun z => ?_) (fun _ => ?_)
          · have := (n_le (p := 60) (by decide) (by omega)).mp z
            omega
          refine Tm_chk (n_in (by omega) (by omega)) ?_
          rw [n_cl (p := 60 * (1 + pr) + s) (by omega)]
          refine Tm_ite (fun z => ?_) (fun _ => ?_)
          · have z0 : σ.2.2 30 (214 + 60 * j + s) = 0 := by
              refine o1 _ (st2 j s (by omega) (by omega)) (Or.inr ⟨by omega, by omega, ?_⟩)
              rw [show (214 + 60 * j + s - 214) / 60 = j by omega, show (214 + 60 * j + s - 214) % 60 = s by omega, Nat.zero_add, p1, n_cl (p := pr) (by omega)]
              exact kC_z z
            refine Tm_suc (fun k => by rw [x_forget]) ?_
            exact b12 _ m1 m2 m3 z0.symm rfl
          · refine Tm_chk (n_in (by omega) (by omega)) ?_
            rw [n_cl (p := 214 + 60 * j + s) (by omega)]
            exact b12 _ m1 m2 m3 rfl rfl
      refine Tm_suc (fun k => by rw [x_forget]) ?_
      refine Tm_chk (by decide) ?_
      rw [show (1 : Int32).toNatClampNeg = 1 from by decide, c1, n1, e65]
      refine Tm_ite (fun z => ?_) (fun _ => ?_)
      · have := (n_le (by omega) (by omega)).mp z
        omega
      refine Tm_chk (n_in (by omega) (by omega)) ?_
      rw [n_cl (p := 65 + 3 * j) (by omega), p1, e60]
      exact b10 60 0 _ (by omega) n1 rfl rfl
  have b4 : ∀ (d s : Nat) (N : Nat → Int32), d + s = 60 → N 1 = nI s → Tm (fun k => x_forget k 4 N σ) (fun r => r = (0, σ)) := by
    intro d
    induction d with
    | zero =>
      intro s N hd n1
      have es : s = 60 := by omega
      subst es
      refine Tm_suc (fun k => by rw [x_forget]) ?_
      rw [n1]
      refine Tm_ite (fun _ => ?_) (fun z => absurd ((n_le (p := 60) (q := 60) (by decide) (by decide)).mpr (Nat.le_refl _)) z)
      refine Tm_suc (fun k => by rw [x_forget]) ?_
      exact b9 c 0 _ (by omega) rfl
    | succ d ih =>
      intro s N hd n1
      have e4 : (4 : Int32) + nI s = nI (4 + s) := n_add (p := 4) (by omega)
      have b6 : ∀ (J : Nat → Int32), J 1 = nI s → J 100 = σ.2.2 30 (4 + s) → J 101 = nI (4 + s) → Tm (fun k => x_forget k 6 J σ) (fun r => r = (0, σ)) := by
        intro J j1 j100 j101
        refine Tm_suc (fun k => by rw [x_forget]) ?_
        rw [j101, j100]
        refine Tm_chk (n_in (by omega) (by omega)) ?_
        rw [n_cl (p := 4 + s) (by omega)]
        show Tm (fun k => x_forget k 7 J (mAr σ 30 (4 + s) (σ.2.2 30 (4 + s)))) _
        rw [mAr_i2 rfl]
        refine Tm_suc (fun k => by rw [x_forget]) ?_
        rw [j1, n_add1]
        exact ih (s + 1) _ (by omega) rfl
      refine Tm_suc (fun k => by rw [x_forget]) ?_
      rw [n1, e4]
      refine Tm_ite (fun z => ?_) (fun _ => ?_)
      · have := (n_le (p := 60) (by decide) (by omega)).mp z
        omega
      refine Tm_chk (n_in (by omega) (by omega)) ?_
      rw [n_cl (p := s) (by omega)]
      refine Tm_ite (fun z => ?_) (fun _ => ?_)
      · have z0 : σ.2.2 30 (4 + s) = 0 := o1 _ (st1 s (by omega)) (Or.inl ⟨by omega, by omega, by rw [show 4 + s - 4 = s by omega]; exact kC_z z⟩)
        refine Tm_suc (fun k => by rw [x_forget]) ?_
        exact b6 _ n1 z0.symm rfl
      · refine Tm_chk (n_in (by omega) (by omega)) ?_
        rw [n_cl (p := 4 + s) (by omega)]
        exact b6 _ n1 rfl rfl
  have b1 : ∀ (d i : Nat) (N : Nat → Int32), d + i = 1380 → N 1 = nI i → Tm (fun k => x_forget k 1 N σ) (fun r => r = (0, σ)) := by
    intro d
    induction d with
    | zero =>
      intro i N hd n1
      have es : i = 1380 := by omega
      subst es
      refine Tm_suc (fun k => by rw [x_forget]) ?_
      rw [n1]
      refine Tm_ite (fun _ => ?_) (fun z => absurd ((n_le (p := 1380) (q := 1380) (by decide) (by decide)).mpr (Nat.le_refl _)) z)
      refine Tm_suc (fun k => by rw [x_forget]) ?_
      exact b4 60 0 _ (by omega) rfl
    | succ d ih =>
      intro i N hd n1
      refine Tm_suc (fun k => by rw [x_forget]) ?_
      rw [n1]
      refine Tm_ite (fun z => ?_) (fun _ => ?_)
      · have := (n_le (p := 1380) (by decide) (by omega)).mp z
        omega
      refine Tm_chk (n_in (by omega) (by omega)) ?_
      rw [n_cl (p := i) (by omega)]
      show Tm (fun k => x_forget k 2 N (mAr σ 33 i 0)) _
      rw [mAr_i2 (o3 i (by omega))]
      refine Tm_suc (fun k => by rw [x_forget]) ?_
      rw [n1, n_add1]
      exact ih (i + 1) _ (by omega) rfl
  refine Tm_suc (fun k => by rw [x_forget]) ?_
  exact b1 1380 0 _ (by omega) rfl
end FGT
/-- behind a statement's end -/
def BgQ (T : Nat → Nat → Int32) (FN : Nat → Nat → Prop) (S : Nat → Nat → Nat → Nat → Prop) (σ1 σ2 r1 r2 : MS) : Prop := (∃ t w XC, XC ≤ 401000 ∧ Mid T FN S t w XC σ1 σ2 r1 r2 ∧ (CTn T S r1 ∨ r1.1 102 = 1) ∧ r1.1 108 = nI w) ∨ ((UT r1 ∧ UT r2 ∧ Bs T FN r1 ∧ Bs T FN r2 ∧ ∀ j, j = 103 ∨ j = 104 ∨ j = 110 ∨ j = 68 → r1.1 j = σ1.1 j ∧ r2.1 j = σ2.1 j) ∧ EZ 0 179400 r1 ∧ EZ 0 179400 r2 ∧ r1.1 102 = 1 ∧ r2.1 102 = 1 ∧ r1.1 105 = r1.1 56 ∧ r2.1 105 = r2.1 56)
section BGE
variable {T : Nat → Nat → Int32} {FN : Nat → Nat → Prop} {S : Nat → Nat → Nat → Nat → Prop} {w : Nat} {σ1 σ2 s1 s2 : MS}
theorem Mid_108 {t XC : Nat} {x : Int32} (h : Mid T FN S t w XC σ1 σ2 s1 s2) : Mid T FN S t w XC σ1 σ2 (mSc s1 108 x) (mSc s2 108 x) := by
  obtain ⟨hE, U1, U2, B1, B2, kp, pq, o, o1, o2⟩ := h
  have bs : ∀ σ : MS, Bs T FN σ → Bs T FN (mSc σ 108 x) := fun σ h => ⟨h.1, h.2.1, h.2.2.1, h.2.2.2.1, h.2.2.2.2.1, h.2.2.2.2.2⟩
  refine ⟨EI_s (by omega) hE, UT_c U1 rfl rfl rfl rfl, UT_c U2 rfl rfl rfl rfl, bs _ B1, bs _ B2, fun j hj => ?_, pq, o, o1, o2⟩
  have := kp j hj
  exact ⟨(upd_other (by omega)).trans this.1, (upd_other (by omega)).trans this.2⟩
/-- a statement's end -/
theorem E_end (h : OuE T FN S w σ1 σ2 s1 s2) {L1 L2 : Nat → Int32} : T2 (fun k => x_begin k 26 L1 s1) (fun k => x_begin k 26 L2 s2) (fun r1 r2 => BgQ T FN S σ1 σ2 r1.2 r2.2) := by
  obtain ⟨t, XC, hXC, h⟩ := h
  refine T2_suc (fun k => by rw [x_begin]) (fun k => by rw [x_begin]) ?_
  show T2 (fun k => x_begin k 27 L1 (mSc s1 108 (s1.1 57))) (fun k => x_begin k 27 L2 (mSc s2 108 (s2.1 57))) _
  have b30 : ∀ (ρ1 ρ2 : MS) (K1 K2 : Nat → Int32), BgQ T FN S σ1 σ2 ρ1 ρ2 → T2 (fun k => x_begin k 30 K1 ρ1) (fun k => x_begin k 30 K2 ρ2) (fun r1 r2 => BgQ T FN S σ1 σ2 r1.2 r2.2) := fun ρ1 ρ2 K1 K2 h => T2_suc (fun k => by rw [x_begin]) (fun k => by rw [x_begin]) (T2_some h)
  rcases h with ⟨w', hw', hM, hc⟩ | ⟨⟨U1, U2, B1, B2, kp⟩, z1, z2⟩
  · obtain ⟨e1, e2⟩ := EI_e hM.1
    have w1 : s1.1 57 = nI w' := by
      obtain ⟨g1, l1, B1, h1, X1, g2, l2, B2, h2, X2, _, _, _, _, _, _, _, _, w1, _⟩ := hM.1
      exact w1
    have w2 : s2.1 57 = nI w' := by
      obtain ⟨g1, l1, B1, h1, X1, g2, l2, B2, h2, X2, _, _, hR, _⟩ := hM.1
      exact (hR.2.2.1 57 (by unfold AlS; omega)).symm.trans w1
    rw [w1, w2]
    have f1 : (mSc s1 108 (nI w')).1 56 = 0 := e1
    have f2 : (mSc s2 108 (nI w')).1 56 = 0 := e2
    have hM' := Mid_108 (x := nI w') hM
    have hc' : CTn T S (mSc s1 108 (nI w')) ∨ (mSc s1 108 (nI w')).1 102 = 1 := hc.imp (fun z => z) (fun z => z)
    have v108 : (mSc s1 108 (nI w')).1 108 = nI w' := rfl
    generalize mSc s1 108 (nI w') = ρ1 at *
    generalize mSc s2 108 (nI w') = ρ2 at *
    refine T2_suc (fun k => by rw [x_begin]) (fun k => by rw [x_begin]) ?_
    rw [f1, f2]
    refine T2_ite Iff.rfl (fun _ _ => ?_) (fun z _ => absurd (by decide) z)
    exact b30 _ _ _ _ (Or.inl ⟨t, w', XC, hXC, hM', hc', v108⟩)
  · have le1 : ¬ (mSc s1 108 (s1.1 57)).1 56 ≤ 0 := EZ_le z1
    have le2 : ¬ (mSc s2 108 (s2.1 57)).1 56 ≤ 0 := EZ_le z2
    refine T2_suc (fun k => by rw [x_begin]) (fun k => by rw [x_begin]) ?_
    refine T2_ite ⟨fun z => absurd z le1, fun z => absurd z le2⟩ (fun z _ => absurd z le1) (fun _ _ => ?_)
    refine T2_suc (fun k => by rw [x_begin]) (fun k => by rw [x_begin]) ?_
    show T2 (fun k => x_begin k 29 L1 (mSc (mSc (mSc s1 108 (s1.1 57)) 105 (s1.1 56)) 102 1)) (fun k => x_begin k 29 L2 (mSc (mSc (mSc s2 108 (s2.1 57)) 105 (s2.1 56)) 102 1)) _
    have ut : ∀ (s : MS) (x y : Int32), UT s → UT (mSc (mSc (mSc s 108 x) 105 y) 102 1) := fun s x y U => UT_c U rfl rfl rfl rfl
    have V1 := ut s1 (s1.1 57) (s1.1 56) U1
    have V2 := ut s2 (s2.1 57) (s2.1 56) U2
    have bs : ∀ (s : MS) (x y : Int32), Bs T FN s → Bs T FN (mSc (mSc (mSc s 108 x) 105 y) 102 1) := fun s x y h => ⟨h.1, h.2.1, h.2.2.1, h.2.2.2.1, h.2.2.2.2.1, h.2.2.2.2.2⟩
    have ez : ∀ (s : MS) (x y : Int32), EZ t 179400 s → EZ 0 179400 (mSc (mSc (mSc s 108 x) 105 y) 102 1) := fun s x y h => EZ_mo (EZ_s2 (by omega) (EZ_s2 (by omega) (EZ_s2 (by omega) h))) (Nat.zero_le _) (Nat.le_refl _)
    refine T2_suc (fun k => by rw [x_begin]) (fun k => by rw [x_begin]) ?_
    refine T2_ob (T2_t (s_forget V1 _) (s_forget V2 _)) (fun r1 r2 hr => ?_)
    rw [hr.1, hr.2]
    refine b30 _ _ _ _ (Or.inr ⟨⟨V1, V2, bs _ _ _ B1, bs _ _ _ B2, fun j hj => ?_⟩, ez _ _ _ z1, ez _ _ _ z2, rfl, rfl, rfl, rfl⟩)
    have := kp j hj
    refine ⟨Eq.trans ?_ this.1, Eq.trans ?_ this.2⟩
    · show upd (upd (upd s1.1 108 (s1.1 57)) 105 (s1.1 56)) 102 1 j = s1.1 j
      rw [upd_other (by omega), upd_other (by omega), upd_other (by omega)]
    · show upd (upd (upd s2.1 108 (s2.1 57)) 105 (s2.1 56)) 102 1 j = s2.1 j
      rw [upd_other (by omega), upd_other (by omega), upd_other (by omega)]
end BGE
