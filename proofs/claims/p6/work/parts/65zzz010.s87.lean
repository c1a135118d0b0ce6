/-! Funcs and procs of the reference: the body. -/
/-- statements and modes, as the state holds them -/
def ZZ (MD : Nat → Nat → Nat) (E : En) (s : SB) (ρ : MS) : Prop := PMs ρ E MD ∧ ρ.1 45 = nI 0 ∧ ρ.1 44 = nI s.1 ∧ s.1 ≤ 400 ∧ (∀ i, ρ.2.2 10 i = s.2.1 i ∧ ρ.2.2 11 i = s.2.2 i)
theorem ZZ_PZ {T : Nat → Int32} {n : Nat} {MD : Nat → Nat → Nat} {E : En} {o q v : Nat} {b : BT} {s : SB} {ρ : MS} (h : ZZ MD E s ρ) (hS : PS T n E o q v b ρ) : PZ T n MD E 0 o q v b s ρ := ⟨hS, h.1, ⟨h.2.1, Nat.zero_le _⟩, h.2.2⟩
theorem PZ_ZZ {T : Nat → Int32} {n : Nat} {MD : Nat → Nat → Nat} {E : En} {o q v : Nat} {b : BT} {s : SB} {ρ : MS} (h : PZ T n MD E 0 o q v b s ρ) : ZZ MD E s ρ := ⟨h.2.1, h.2.2.1.1, h.2.2.2⟩
/-- what speaks of other rows does not matter -/
theorem ZZ_fr {MD : Nat → Nat → Nat} {E E' : En} {s : SB} {ρ τ : MS} (h : ZZ MD E s ρ) (h44 : τ.1 44 = ρ.1 44) (h45 : τ.1 45 = ρ.1 45) (h10 : τ.2.2 10 = ρ.2.2 10) (h11 : τ.2.2 11 = ρ.2.2 11) (h19 : τ.2.2 19 = ρ.2.2 19) (e1 : E'.1 = E.1) (e2 : E'.2.2.2.2.2.2 = E.2.2.2.2.2.2) : ZZ MD E' s τ := by
  refine ⟨fun x hx hk i hi => ?_, h45.trans h.2.1, h44.trans h.2.2.1, h.2.2.2.1, fun i => ?_⟩
  · rw [h19]; rw [e1] at hx; rw [e2] at hi; exact h.1 x hx hk i hi
  · rw [h10, h11]; exact h.2.2.2.2 i
section BOD
variable {T : Nat → Int32} {n : Nat} {c : Nat}
theorem p_vs {R : Int32 × MS → Prop} : ∀ (f : Nat) (E : En) (q v : Nat) (b : BT) (x : Option DV), GVs T n f E q v b = some x → ∀ (ρ : MS) (N : Nat → Int32), PS T n E 0 q v b ρ → E.2.2.2.1 = c + 1 → b.2.1 + (n - q) ≤ 70000 →
    (∀ (t : DV) (ρ' : MS), x = some t → PS T n t.2.1 0 t.1 t.2.2.1 t.2.2.2 ρ' → FrV (c + 1) ρ ρ' → Tm (fun k => x_declareCallable k 23 N ρ') R) →
    (x = none → ∀ (m : Nat) (ρ' : MS), Bb m ρ' → FrV (c + 1) ρ ρ' → Tm (fun k => x_declareCallable k 22 N ρ') R) → Tm (fun k => x_declareCallable k 22 N ρ) R
  | 0, E, q, v, b, x, hG, ρ, N, h, hw, hp, Hs, Hb => by cases hG
  | f + 1, E, q, v, b, x, hG, ρ, N, h, hw, hp, Hs, Hb => by
    have ih := p_vs (R := R) f
    rw [GVs] at hG
    refine Tm_suc (fun k => by rw [x_declareCallable]) ?_
    refine Tm_ite (fun _ => ?_) (fun z => absurd (PS_ok h) z)
    refine Tm_ob (p_word h (s := 0) (by decide) upd_same) (fun r hr => ?_)
    obtain ⟨a, τ⟩ := r
    obtain ⟨rfl, hr⟩ := hr
    refine Tm_ite (fun y => ?_) (fun y => ?_)
    · rw [if_neg (fun w => hr.mpr w y)] at hG
      obtain rfl := Option.some.inj hG
      exact Hs _ _ rfl h FrV_rf
    · rw [if_pos (hr.mp y)] at hG
      have hN := tkN_b T n q (PS_q h).1
      rcases pb_any hG with ⟨hg, rfl⟩ | ⟨t, hg, hx⟩
      · refine Tm_ob (p_declareVar hg h hp (fun z => by rw [hw] at z; omega)) (fun r hr => ?_)
        rw [hw] at hr
        obtain ⟨⟨m, hB⟩, hF⟩ := hr
        exact Hb rfl m _ hB hF
      · refine Tm_ob (p_declareVar hg h hp (fun z => by rw [hw] at z; omega)) (fun r hr => ?_)
        rw [hw] at hr
        obtain ⟨hS, hF⟩ := hr
        rcases pT_any hg with ⟨_, y⟩ | ⟨_, hg2⟩
        · cases y
        · obtain ⟨m1, m2, m3, m4, m5, m6, m7, m8, m9, m10, m11, m12⟩ := gvr_mo _ _ _ _ _ _ hN.2.1 (PS_v h) hg2
          exact ih _ _ _ _ _ hx _ N hS (by rw [m8]; exact hw) (by omega) (fun t' ρ' e1 e2 e3 => Hs t' ρ' e1 e2 (FrV_tr hF e3)) (fun e1 m ρ' e2 e3 => Hb e1 m ρ' e2 (FrV_tr hF e3))
theorem gvs_mo : ∀ (f : Nat) (E : En) (q v : Nat) (b : BT) (r : DV), q ≤ n → v ≤ 60 → ¬ E.2.2.2.1 = 0 → GVs T n f E q v b = some (some r) → q ≤ r.1 ∧ r.1 ≤ n ∧ v ≤ r.2.2.1 ∧ r.2.2.1 ≤ 60 ∧ r.2.2.2.1 = b.1 ∧ r.2.2.2.2.1 + q ≤ b.2.1 + r.1 ∧ b.2.1 ≤ r.2.2.2.2.1 ∧ r.2.1.2.2 = E.2.2 ∧ r.2.1.1 = E.1 ∧ r.2.2.2.2.2.1 = b.2.2.1
  | 0, E, q, v, b, r, hq, hv, hw, hG => by cases hG
  | f + 1, E, q, v, b, r, hq, hv, hw, hG => by
    have ih := gvs_mo f
    have hN := tkN_b T n q hq
    rw [GVs] at hG
    by_cases z : tkK T n q = 32
    · rw [if_pos z] at hG
      rcases pb_any hG with ⟨_, y⟩ | ⟨t, hg, hx⟩
      · cases y
      · rcases pT_any hg with ⟨_, y⟩ | ⟨_, hg2⟩
        · cases y
        · obtain ⟨m1, m2, m3, m4, m5, m6, m7, m8, m9, m10, m11, m12⟩ := gvr_mo _ _ _ _ _ _ hN.2.1 hv hg2
          obtain ⟨k1, k2, k3, k4, k5, k6, k7, k8, k9, k10⟩ := ih _ _ _ _ _ m2 m4 (by rw [m8]; exact hw) hx
          exact ⟨by omega, k2, by omega, k4, k5.trans m5, by omega, by omega, k8.trans m8, k9.trans (m10 hw), k10.trans m12⟩
    · rw [if_neg z] at hG
      obtain rfl := Option.some.inj (Option.some.inj hG)
      exact ⟨Nat.le_refl _, hq, Nat.le_refl _, hv, rfl, Nat.le_refl _, Nat.le_refl _, rfl, rfl, rfl⟩
theorem gvs_tot : ∀ (f : Nat) (E : En) (q v : Nat) (b : BT), q ≤ n → v ≤ 60 → n - q + 1 ≤ f → ∃ y, GVs T n f E q v b = some y
  | 0, E, q, v, b, hq, hv, hf => absurd hf (by omega)
  | f + 1, E, q, v, b, hq, hv, hf => by
    have ih := gvs_tot f
    have hN := tkN_b T n q hq
    rw [GVs]
    by_cases z : tkK T n q = 32
    · rw [if_pos z]
      refine pb_t (pT_t (gvr_tot _ _ _ _ _ hN.2.1 (by unfold fu; omega))) (fun t ht => ?_)
      rcases pT_any ht with ⟨_, y⟩ | ⟨_, hg2⟩
      · cases y
      · obtain ⟨m1, m2, m3, m4, _⟩ := gvr_mo _ _ _ _ _ _ hN.2.1 hv hg2
        exact ih _ _ _ _ m2 m4 (by omega)
    · rw [if_neg z]; exact ⟨_, rfl⟩
/-- what is known behind the body -/
def QB (T : Nat → Int32) (n c : Nat) (MD : Nat → Nat → Nat) (E : En) (R : Nat → Int32) (q : Nat) (e : Int32 × Nat) (b : BT) (s : SB) (ρ : MS) : Prop := ∃ (E' : En), PS T n E' 0 q e.2 b ρ ∧ E'.1 = E.1 ∧ E'.2.2 = E.2.2 ∧ ρ.2.2 17 c = e.1 ∧ ZZ MD E' s ρ ∧ ρ.2.2 19 = R
theorem ca_body {pr : Bool} {MD : Nat → Nat → Nat} {E : En} {q v : Nat} {b : BT} {s : SB} {x : Option BD} {σ ρ : MS} {N : Nat → Int32} (hG : gBod T n pr MD E q v b s = some x) (h : PS T n E 0 q v b ρ) (hZ : ZZ MD E s ρ) (hw : E.2.2.2.1 = c + 1) (hc : c ≤ 40) (hn : b.1 + (n + 1 - q) + 1067 ≤ 70000) (hp : b.2.1 + (n - q) ≤ 70000) (hF : FrU c σ ρ) (n1 : N 1 = 0 ↔ pr = false) (n2 : N 2 = nI c) : Tm (fun k => x_declareCallable k 21 N ρ) (PoE T n c σ (QB T n c MD E (ρ.2.2 19)) x) := by
  have hN := tkN_b T n q (PS_q h).1
  have hb1 : 1 ≤ b.1 := h.2.2.1.2.1
  unfold gBod at hG
  refine Tm_suc (fun k => by rw [x_declareCallable]) ?_
  refine Tm_ite (fun z => ?_) (fun z => ?_)
  · rw [if_neg (by rw [n1.mp z]; decide)] at hG
    refine Tm_suc (fun k => by rw [x_declareCallable]) ?_
    refine Tm_ob (p_want (M := 0) (P := 0) (w := c + 1) h (s := 17) (by decide) (by decide) upd_same) (fun r hr => ?_)
    rcases pW_any hG with ⟨y, rfl⟩ | ⟨y, hg⟩
    · rcases hr.2 with ⟨_, hB⟩ | ⟨y2, _⟩
      · refine Tm_ob (b_xexp hB.1 _) (fun r2 hr2 => ?_)
        rw [hr2, n2]
        refine Tm_chk (n_in (by omega) (by omega)) ?_
        rw [n_cl (p := c) (by omega)]
        show Tm (fun k => x_declareCallable k 26 N (mAr r.2 17 c 0)) _
        exact ca_b26 (show Bb b.1 (mAr r.2 17 c 0) from hB) (FrU_17 (FrU_tr hF (FrU_M hr.1)) 0)
      · exact absurd y2 y
    · rcases hr.2 with ⟨y2, _⟩ | ⟨_, hS⟩
      · exact absurd y y2
      · rcases pb_any hg with ⟨hg2, rfl⟩ | ⟨t, hg2, hx⟩
        · refine Tm_ob (p_exp (M := 1) (P := 0) hg2 hS (by decide) hb1 (Nat.zero_le _) (by omega) (by omega)) (fun r2 hr2 => ?_)
          obtain ⟨⟨m, hB, _⟩, _, hF2⟩ := hr2
          rw [hw] at hF2
          rw [n2]
          refine Tm_chk (n_in (by omega) (by omega)) ?_
          rw [n_cl (p := c) (by omega)]
          show Tm (fun k => x_declareCallable k 26 N (mAr r2.2 17 c r2.1)) _
          exact ca_b26 (show Bb m (mAr r2.2 17 c r2.1) from hB) (FrU_17 (FrU_tr hF (FrU_tr (FrU_M hr.1) (FrU_M hF2))) 0)
        · refine Tm_ob (p_exp (M := 1) (P := 0) hg2 hS (by decide) hb1 (Nat.zero_le _) (by omega) (by omega)) (fun r2 hr2 => ?_)
          obtain ⟨hS2, he2, hF2⟩ := hr2
          have hF3 := hF2
          rw [hw] at hF3
          rw [n2, he2]
          refine Tm_chk (n_in (by omega) (by omega)) ?_
          rw [n_cl (p := c) (by omega)]
          show Tm (fun k => x_declareCallable k 26 N (mAr r2.2 17 c (nI t.2.2.2.1))) _
          refine ca_26 hx (PS_ar hS2 (Or.inl rfl)) (FrU_17 (FrU_tr hF (FrU_tr (FrU_M hr.1) (FrU_M hF3))) 0) (fun ρ' hS' hF' => ⟨E, hS', rfl, rfl, ?_, ?_, by rw [hF'.2.2.1 19 (by decide), mAr_o (by decide), hF2.2.2.1 19 (by decide), hr.1.2.2.1 19 (by decide)]⟩) hw
          · rw [hF'.2.2.1 17 (by decide), mAr_s, upd_same]
          · refine ZZ_fr hZ ?_ ?_ ?_ ?_ ?_ rfl rfl
            · rw [hF'.1 44 (by decide)]; show r2.2.1 44 = _; rw [hF2.1 44 (by decide), hr.1.1 44 (by decide)]
            · rw [hF'.1 45 (by decide)]; show r2.2.1 45 = _; rw [hF2.1 45 (by decide), hr.1.1 45 (by decide)]
            · rw [hF'.2.2.1 10 (by decide), mAr_o (by decide), hF2.2.2.1 10 (by decide), hr.1.2.2.1 10 (by decide)]
            · rw [hF'.2.2.1 11 (by decide), mAr_o (by decide), hF2.2.2.1 11 (by decide), hr.1.2.2.1 11 (by decide)]
            · rw [hF'.2.2.1 19 (by decide), mAr_o (by decide), hF2.2.2.1 19 (by decide), hr.1.2.2.1 19 (by decide)]
  · have hpr : pr = true := by
      cases pr with
      | false => exact absurd (n1.mpr rfl) z
      | true => rfl
    rw [if_pos hpr] at hG
    refine Tm_ob (v_want (w := c + 1) h (s := 13) (by decide) (by decide) upd_same) (fun r hr => ?_)
    rcases pW_any hG with ⟨y, rfl⟩ | ⟨y, hg⟩
    · rcases hr.2 with ⟨_, hB⟩ | ⟨y2, _⟩
      · exact ca_b22 hc n2 hB (FrU_tr hF (FrU_V hr.1))
      · exact absurd y2 y
    · rcases hr.2 with ⟨y2, _⟩ | ⟨_, hS⟩
      · exact absurd y y2
      · have hv := PS_v h
        have hF1 := FrU_tr hF (FrU_V hr.1)
        rcases pb_any hg with ⟨hg2, rfl⟩ | ⟨t, hg2, hx⟩
        · refine p_vs _ _ _ _ _ _ hg2 _ N hS hw (by omega) (fun t ρ' e1 _ _ => by cases e1) (fun _ m ρ' hB hV => ca_b22 hc n2 hB (FrU_tr hF1 (FrU_V hV)))
        · refine p_vs _ _ _ _ _ _ hg2 _ N hS hw (by omega) (fun t' ρ' e1 hS1 hV1 => ?_) (fun e1 => by cases e1)
          obtain rfl := Option.some.inj e1
          obtain ⟨m1, m2, m3, m4, m5, m6, m7, m8, m9, m10⟩ := gvs_mo _ _ _ _ _ _ hN.2.1 hv (by omega) hg2
          have hF2 := FrU_tr hF1 (FrU_V hV1)
          have hV := FrV_tr hr.1 hV1
          have hZ1 : ZZ MD t.2.1 s ρ' := ZZ_fr hZ (hV.1 44 (by decide)) (hV.1 45 (by decide)) (hV.2.2.1 10 (by decide)) (hV.2.2.1 11 (by decide)) (hV.2.2.1 19 (by decide)) m9 (by rw [m8])
          have HB : SB0 T n MD (fu n) := sb_of (all_Z (fu n) (fu n) (Nat.le_refl _)).1
          have w' : t.2.1.2.2.2.1 = c + 1 := by rw [m8]; exact hw
          refine Tm_suc (fun k => by rw [x_declareCallable]) ?_
          rcases pb_any hx with ⟨hg3, rfl⟩ | ⟨u, hg3, hx3⟩
          · refine Tm_ob (HB _ _ _ _ _ _ _ _ _ hg3 ρ' _ 100 1 0 (ZZ_PZ hZ1 hS1) (by decide) (by rw [m5]; exact hb1) (Nat.zero_le _) (by rw [m5]; omega) (by omega) (by decide) upd_same) (fun r2 hr2 => ?_)
            obtain ⟨⟨m, hB, _⟩, hF3⟩ := hr2
            rw [w'] at hF3
            rw [n2]
            refine Tm_chk (n_in (by omega) (by omega)) ?_
            rw [n_cl (p := c) (by omega)]
            show Tm (fun k => x_declareCallable k 24 N (mAr r2.2 17 c r2.1)) _
            refine Tm_suc (fun k => by rw [x_declareCallable]) ?_
            have hB2 : Bb m (mAr r2.2 17 c r2.1) := hB
            refine Tm_ob (b_wantWord hB2.1 _) (fun r3 hr3 => ?_)
            rw [hr3]
            exact ca_b26 hB2 (FrU_17 (FrU_tr hF2 (FrU_Z hF3)) 0)
          · refine Tm_ob (HB _ _ _ _ _ _ _ _ _ hg3 ρ' _ 100 1 0 (ZZ_PZ hZ1 hS1) (by decide) (by rw [m5]; exact hb1) (Nat.zero_le _) (by rw [m5]; omega) (by omega) (by decide) upd_same) (fun r2 hr2 => ?_)
            obtain ⟨hZ3, he3, hF3⟩ := hr2
            rw [w'] at hF3
            rw [n2, he3]
            refine Tm_chk (n_in (by omega) (by omega)) ?_
            rw [n_cl (p := c) (by omega)]
            show Tm (fun k => x_declareCallable k 24 N (mAr r2.2 17 c (hd u.2.2.2.1))) _
            have hS3 : PS T n t.2.1 0 u.1 u.2.1 u.2.2.2.2.1 (mAr r2.2 17 c (hd u.2.2.2.1)) := PS_ar hZ3.1 (Or.inl rfl)
            refine Tm_suc (fun k => by rw [x_declareCallable]) ?_
            refine Tm_ob (p_wantWord (M := 0) (P := 0) (w := c + 1) hS3 (s := 6) (by decide) upd_same) (fun r3 hr3 => ?_)
            have hF4 : FrU c σ (mAr r3.2 17 c (σ.2.2 17 c)) := by
              have g := FrU_17 (x := hd u.2.2.2.1) (FrU_tr hF2 (FrU_Z hF3)) 0
              obtain ⟨h1, h2, h3, h4, h5, h6, h7, h8⟩ := FrU_M hr3.1
              refine FrU_tr g ⟨h1, h2, fun j hj => ?_, fun i hi => ?_, fun i hi => ?_, fun i hi => ?_, fun i hi => ?_, fun z => ?_⟩
              · by_cases e : j = 17
                · subst e; rw [mAr_s, mAr_s, h3 17 (by decide)]
                · rw [mAr_o e, mAr_o e]; exact h3 j hj
              · rw [mAr_o (by decide), mAr_o (by decide)]; exact h4 i hi
              · rw [mAr_o (by decide), mAr_o (by decide)]; exact h5 i hi
              · rw [mAr_o (by decide), mAr_o (by decide)]; exact h6 i hi
              · rw [mAr_o (by decide), mAr_o (by decide)]; exact h7 i hi
              · rw [mAr_o (by decide)] at z ⊢; exact h8 z
            rcases pW_any hx3 with ⟨y3, rfl⟩ | ⟨y3, hx4⟩
            · rcases hr3.2 with ⟨_, hB⟩ | ⟨y4, _⟩
              · exact ca_b26 hB hF4
              · exact absurd y4 y3
            · rcases hr3.2 with ⟨y4, _⟩ | ⟨_, hS4⟩
              · exact absurd y3 y4
              · refine ca_26 hx4 hS4 hF4 (fun ρ'' hS' hF' => ⟨t.2.1, hS', m9, m8, ?_, ?_, by rw [hF'.2.2.1 19 (by decide), hr3.1.2.2.1 19 (by decide), mAr_o (by decide), hF3.2.2.1 19 (by decide), hV.2.2.1 19 (by decide)]⟩) w'
                · rw [hF'.2.2.1 17 (by decide), hr3.1.2.2.1 17 (by decide), mAr_s, upd_same]
                · refine ZZ_fr (PZ_ZZ hZ3) ?_ ?_ ?_ ?_ ?_ rfl rfl
                  · rw [hF'.1 44 (by decide), hr3.1.1 44 (by decide)]; rfl
                  · rw [hF'.1 45 (by decide), hr3.1.1 45 (by decide)]; rfl
                  · rw [hF'.2.2.1 10 (by decide), hr3.1.2.2.1 10 (by decide), mAr_o (by decide)]
                  · rw [hF'.2.2.1 11 (by decide), hr3.1.2.2.1 11 (by decide), mAr_o (by decide)]
                  · rw [hF'.2.2.1 19 (by decide), hr3.1.2.2.1 19 (by decide), mAr_o (by decide)]
end BOD
