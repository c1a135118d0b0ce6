section JnS87
variable {yf : Nat × Nat}
/-! Funcs and procs of the reference: the body. -/
/-- statements and modes, as the state holds them -/
def ZZ (MD : Nat → Nat → Nat) (E : En) (s : SB) (ρ : MS) : Prop := PMs ρ E MD ∧ ρ.1 45 = nI 0 ∧ ρ.1 44 = nI s.1 ∧ s.1 ≤ 400 ∧ (∀ i, ρ.2.2 10 i = s.2.1 i ∧ ρ.2.2 11 i = s.2.2 i)
theorem ZZ_PZ {T : Nat → Int32} {n : Nat} {MD : Nat → Nat → Nat} {E : En} {o q v : Nat} {b : BT} {s : SB} {ρ : MS} (h : ZZ MD E s ρ) (hS : PS T n E o q v b ρ) : PZ T n MD E 0 o q v b s ρ := ⟨hS, h.1, ⟨h.2.1, Nat.zero_le _⟩, h.2.2⟩
theorem PZ_ZZ {T : Nat → Int32} {n : Nat} {MD : Nat → Nat → Nat} {E : En} {o q v : Nat} {b : BT} {s : SB} {ρ : MS} (h : PZ T n MD E 0 o q v b s ρ) : ZZ MD E s ρ := ⟨h.2.1, h.2.2.1.1, h.2.2.2⟩
/-- what speaks of other rows does not matter -/
theorem ZZ_fr {MD : Nat → Nat → Nat} {E E' : En} {s : SB} {ρ τ : MS} (h : ZZ MD E s ρ) (h44 : τ.1 44 = ρ.1 44) (h45 : τ.1 45 = ρ.1 45) (h10 : τ.2.2 10 = ρ.2.2 10) (h11 : τ.2.2 11 = ρ.2.2 11) (h19 : τ.2.2 19 = ρ.2.2 19) (e1 : E'.1 = E.1) (e2 : E'.2.2.2.2.2.2 = E.2.2.2.2.2.2) : ZZ MD E' s τ := by
  refine ⟨fun x hx hk i hi => ?_, h45.trans h.2.1, h44.trans h.2.2.1, h.2.2.2.1, fun i => ?_⟩
  · rw [h19]; rw [e1] at hx; rw [e2] at hi; exact h.1 x hx hk i hi
  · rw [h10, h11]; exact h.2.2.2.2 i
section BOD
variable {T : Nat → Int32} {n : Nat} {c : Nat}
theorem p_vs {R : Int32 × MS → Prop} : ∀ (f : Nat) (E : En) (q v : Nat) (b : BT) (x : Fl DV), GVs T n f E q v b = some x → ∀ (ρ : MS) (N : Nat → Int32), PS T n E 0 q v b ρ → E.2.2.2.1 = c + 1 → b.2.1 + (n - q) ≤ 70000 →
    (∀ (t : DV) (ρ' : MS), x = Sum.inr t → PS T n t.2.1 0 t.1 t.2.2.1 t.2.2.2 ρ' → FrV (c + 1) ρ ρ' → Tm (fun k => x_declareCallable k 23 N ρ') R) →
    (∀ y : Nat × Nat, x = Sum.inl y → ∀ (m : Nat) (ρ' : MS), Bb y m ρ' → FrV (c + 1) ρ ρ' → Tm (fun k => x_declareCallable k 22 N ρ') R) → Tm (fun k => x_declareCallable k 22 N ρ) R
  | 0, E, q, v, b, x, hG, ρ, N, h, hw, hp, Hs, Hb => by cases hG
  | f + 1, E, q, v, b, x, hG, ρ, N, h, hw, hp, Hs, Hb => by
    have ih := p_vs (R := R) f
    rw [GVs] at hG
    refine Tm_suc (fun k => by rw [x_declareCallable]) ?_
    refine Tm_ite (fun _ => ?_) (fun z => absurd (PS_ok h) z)
    refine Tm_ob (p_word h (s := 0) (by decide) upd_same) (fun r hr => ?_)
    obtain ⟨a, τ⟩ := r
    obtain ⟨rfl, hr⟩ := hr
    refine Tm_ite (fun y => ?_) (fun y => ?_)
    · rw [if_neg (fun w => hr.mpr w y)] at hG
      obtain rfl := Option.some.inj hG
      exact Hs _ _ rfl h FrV_rf
    · rw [if_pos (hr.mp y)] at hG
      have hN := tkN_b T n q (PS_q h).1
      rcases pb_any hG with ⟨yf, hg, rfl⟩ | ⟨t, hg, hx⟩
      · refine Tm_ob (p_declareVar hg h hp (fun z => by rw [hw] at z; omega)) (fun r hr => ?_)
        rw [hw] at hr
        obtain ⟨⟨m, hB⟩, hF⟩ := hr
        exact Hb _ rfl m _ hB hF
      · refine Tm_ob (p_declareVar hg h hp (fun z => by rw [hw] at z; omega)) (fun r hr => ?_)
        rw [hw] at hr
        obtain ⟨hS, hF⟩ := hr
        rcases pT_any hg with ⟨_, y⟩ | ⟨_, hg2⟩
        · cases y
        · obtain ⟨m1, m2, m3, m4, m5, m6, m7, m8, m9, m10, m11, m12⟩ := gvr_mo _ _ _ _ _ _ hN.2.1 (PS_v h) hg2
          exact ih _ _ _ _ _ hx _ N hS (by rw [m8]; exact hw) (by omega) (fun t' ρ' e1 e2 e3 => Hs t' ρ' e1 e2 (FrV_tr hF e3)) (fun y1 e1 m ρ' e2 e3 => Hb y1 e1 m ρ' e2 (FrV_tr hF e3))
theorem gvs_mo : ∀ (f : Nat) (E : En) (q v : Nat) (b : BT) (r : DV), q ≤ n → v ≤ 60 → ¬ E.2.2.2.1 = 0 → GVs T n f E q v b = some (Sum.inr r) → q ≤ r.1 ∧ r.1 ≤ n ∧ v ≤ r.2.2.1 ∧ r.2.2.1 ≤ 60 ∧ r.2.2.2.1 = b.1 ∧ r.2.2.2.2.1 + q ≤ b.2.1 + r.1 ∧ b.2.1 ≤ r.2.2.2.2.1 ∧ r.2.1.2.2 = E.2.2 ∧ r.2.1.1 = E.1 ∧ r.2.2.2.2.2.1 = b.2.2.1
  | 0, E, q, v, b, r, hq, hv, hw, hG => by cases hG
  | f + 1, E, q, v, b, r, hq, hv, hw, hG => by
    have ih := gvs_mo f
    have hN := tkN_b T n q hq
    rw [GVs] at hG
    by_cases z : tkK T n q = 32
    · rw [if_pos z] at hG
      rcases pb_any hG with ⟨yf, _, y⟩ | ⟨t, hg, hx⟩
      · cases y
      · rcases pT_any hg with ⟨_, y⟩ | ⟨_, hg2⟩
        · cases y
        · obtain ⟨m1, m2, m3, m4, m5, m6, m7, m8, m9, m10, m11, m12⟩ := gvr_mo _ _ _ _ _ _ hN.2.1 hv hg2
          obtain ⟨k1, k2, k3, k4, k5, k6, k7, k8, k9, k10⟩ := ih _ _ _ _ _ m2 m4 (by rw [m8]; exact hw) hx
          exact ⟨by omega, k2, by omega, k4, k5.trans m5, by omega, by omega, k8.trans m8, k9.trans (m10 hw), k10.trans m12⟩
    · rw [if_neg z] at hG
      obtain rfl := Sum.inr.inj (Option.some.inj hG)
      exact ⟨Nat.le_refl _, hq, Nat.le_refl _, hv, rfl, Nat.le_refl _, Nat.le_refl _, rfl, rfl, rfl⟩
theorem gvs_tot : ∀ (f : Nat) (E : En) (q v : Nat) (b : BT), q ≤ n → v ≤ 60 → n - q + 1 ≤ f → ∃ y, GVs T n f E q v b = some y
  | 0, E, q, v, b, hq, hv, hf => absurd hf (by omega)
  | f + 1, E, q, v, b, hq, hv, hf => by
    have ih := gvs_tot f
    have hN := tkN_b T n q hq
    rw [GVs]
    by_cases z : tkK T n q = 32
    · rw [if_pos z]
      refine pb_t (pT_t (gvr_tot _ _ _ _ _ hN.2.1 (by unfold fu; omega))) (fun t ht => ?_)
      rcases pT_any ht with ⟨_, y⟩ | ⟨_, hg2⟩
      · cases y
      · obtain ⟨m1, m2, m3, m4, _⟩ := gvr_mo _ _ _ _ _ _ hN.2.1 hv hg2
        exact ih _ _ _ _ m2 m4 (by omega)
    · rw [if_neg z]; exact ⟨_, rfl⟩
/-- what is known behind the body -/
def QB (T : Nat → Int32) (n c : Nat) (MD : Nat → Nat → Nat) (E : En) (R : Nat → Int32) (q : Nat) (e : Int32 × Nat) (b : BT) (s : SB) (ρ : MS) : Prop := ∃ (E' : En), PS T n E' 0 q e.2 b ρ ∧ E'.1 = E.1 ∧ E'.2.2 = E.2.2 ∧ ρ.2.2 17 c = e.1 ∧ ZZ MD E' s ρ ∧ ρ.2.2 19 = R
theorem ca_body {pr : Bool} {MD : Nat → Nat → Nat} {E : En} {q v : Nat} {b : BT} {s : SB} {x : Fl BD} {σ ρ : MS} {N : Nat → Int32} (hG : gBod T n pr MD E q v b s = some x) (h : PS T n E 0 q v b ρ) (hZ : ZZ MD E s ρ) (hw : E.2.2.2.1 = c + 1) (hc : c ≤ 40) (hn : b.1 + (n + 1 - q) + 1067 ≤ 70000) (hp : b.2.1 + (n - q) ≤ 70000) (hF : FrU c σ ρ) (n1 : N 1 = 0 ↔ pr = false) (n2 : N 2 = nI c) : Tm (fun k => x_declareCallable k 21 N ρ) (PoE T n c σ (QB T n c MD E (ρ.2.2 19)) x) := by
  have hN := tkN_b T n q (PS_q h).1
  have hb1 : 1 ≤ b.1 := h.2.2.1.2.1
  unfold gBod at hG
  refine Tm_suc (fun k => by rw [x_declareCallable]) ?_
  refine Tm_ite (fun z => ?_) (fun z => ?_)
  · rw [if_neg (by rw [n1.mp z]; decide)] at hG
    refine Tm_suc (fun k => by rw [x_declareCallable]) ?_
    refine Tm_ob (p_want (M := 0) (P := 0) (w := c + 1) h (s := 17) (by decide) (by decide) upd_same) (fun r hr => ?_)
    rcases pW_any hG with ⟨y, rfl⟩ | ⟨y, hg⟩
    · rcases hr.2 with ⟨_, hB⟩ | ⟨y2, _⟩
      · refine Tm_ob (b_xexp hB.1 _) (fun r2 hr2 => ?_)
        rw [hr2, n2]
        refine Tm_chk (n_in (by omega) (by omega)) ?_
        rw [n_cl (p := c) (by omega)]
        show Tm (fun k => x_declareCallable k 26 N (mAr r.2 17 c 0)) _
        exact ca_b26 (show Bb _ b.1 (mAr r.2 17 c 0) from hB) (FrU_17 (FrU_tr hF (FrU_M hr.1)) 0)
      · exact absurd y2 y
    · rcases hr.2 with ⟨y2, _⟩ | ⟨_, hS⟩
      · exact absurd y y2
      · rcases pb_any hg with ⟨yf, hg2, rfl⟩ | ⟨t, hg2, hx⟩
        · refine Tm_ob (p_exp (M := 1) (P := 0) hg2 hS (by decide) hb1 (Nat.zero_le _) (by omega) (by omega)) (fun r2 hr2 => ?_)
          obtain ⟨⟨m, hB, _⟩, _, hF2⟩ := hr2
          rw [hw] at hF2
          rw [n2]
          refine Tm_chk (n_in (by omega) (by omega)) ?_
          rw [n_cl (p := c) (by omega)]
          show Tm (fun k => x_declareCallable k 26 N (mAr r2.2 17 c r2.1)) _
          exact ca_b26 (show Bb _ m (mAr r2.2 17 c r2.1) from hB) (FrU_17 (FrU_tr hF (FrU_tr (FrU_M hr.1) (FrU_M hF2))) 0)
        · refine Tm_ob (p_exp (M := 1) (P := 0) hg2 hS (by decide) hb1 (Nat.zero_le _) (by omega) (by omega)) (fun r2 hr2 => ?_)
          obtain ⟨hS2, he2, hF2⟩ := hr2
          have hF3 := hF2
          rw [hw] at hF3
          rw [n2, he2]
          refine Tm_chk (n_in (by omega) (by omega)) ?_
          rw [n_cl (p := c) (by omega)]
          show Tm (fun k => x_declareCallable k 26 N (mAr r2.2 17 c (nI t.2.2.2.1))) _
          refine ca_26 hx (PS_ar hS2 (Or.inl rfl)) (FrU_17 (FrU_tr hF (FrU_tr (FrU_M hr.1) (FrU_M hF3))) 0) (fun ρ' hS' hF' => ⟨E, hS', rfl, rfl, ?_, ?_, by rw [hF'.2.2.1 19 (by decide), mAr_o (by decide), hF2.2.2.1 19 (by decide), hr.1.2.2.1 19 (by decide)]⟩) hw
          · rw [hF'.2.2.1 17 (by decide), mAr_s, upd_same]
          · refine ZZ_fr hZ ?_ ?_ ?_ ?_ ?_ rfl rfl
            · rw [hF'.1 44 (by decide)]; show r2.2.1 44 = _; rw [hF2.1 44 (by decide), hr.1.1 44 (by decide)]
            · rw [hF'.1 45 (by decide)]; show r2.2.1 45 = _; rw [hF2.1 45 (by decide), hr.1.1 45 (by decide)]
            · rw [hF'.2.2.1 10 (by decide), mAr_o (by decide), hF2.2.2.1 10 (by decide), hr.1.2.2.1 10 (by decide)]
            · rw [hF'.2.2.1 11 (by decide), mAr_o (by decide), hF2.2.2.1 11 (by decide), hr.1.2.2.1 11 (by decide)]
            · rw [hF'.2.2.1 19 (by decide), mAr_o (by decide), hF2.2.2.1 19 (by decide), hr.1.2.2.1 19 (by decide)]
  · have hpr : pr = true := by
      cases pr with
      | false => exact absurd (n1.mpr rfl) z
      | true => rfl
    rw [if_pos hpr] at hG
    refine Tm_ob (v_want (w := c + 1) h (s := 13) (by decide) (by decide) upd_same) (fun r hr => ?_)
    rcases pW_any hG with ⟨y, rfl⟩ | ⟨y, hg⟩
    · rcases hr.2 with ⟨_, hB⟩ | ⟨y2, _⟩
      · exact ca_b22 hc n2 hB (FrU_tr hF (FrU_V hr.1))
      · exact absurd y2 y
    · rcases hr.2 with ⟨y2, _⟩ | ⟨_, hS⟩
      · exact absurd y y2
      · have hv := PS_v h
        have hF1 := FrU_tr hF (FrU_V hr.1)
        rcases pb_any hg with ⟨yf, hg2, rfl⟩ | ⟨t, hg2, hx⟩
        · refine p_vs _ _ _ _ _ _ hg2 _ N hS hw (by omega) (fun t ρ' e1 _ _ => by cases e1) (fun y1 e1 m ρ' hB hV => by cases e1; exact ca_b22 hc n2 hB (FrU_tr hF1 (FrU_V hV)))
        · refine p_vs _ _ _ _ _ _ hg2 _ N hS hw (by omega) (fun t' ρ' e1 hS1 hV1 => ?_) (fun y1 e1 => by cases e1)
          obtain rfl := Sum.inr.inj e1
          obtain ⟨m1, m2, m3, m4, m5, m6, m7, m8, m9, m10⟩ := gvs_mo _ _ _ _ _ _ hN.2.1 hv (by omega) hg2
          have hF2 := FrU_tr hF1 (FrU_V hV1)
          have hV := FrV_tr hr.1 hV1
          have hZ1 : ZZ MD t.2.1 s ρ' := ZZ_fr hZ (hV.1 44 (by decide)) (hV.1 45 (by decide)) (hV.2.2.1 10 (by decide)) (hV.2.2.1 11 (by decide)) (hV.2.2.1 19 (by decide)) m9 (by rw [m8])
          have HB : SB0 T n MD (fu n) := sb_of (all_Z (fu n) (fu n) (Nat.le_refl _)).1
          have w' : t.2.1.2.2.2.1 = c + 1 := by rw [m8]; exact hw
          refine Tm_suc (fun k => by rw [x_declareCallable]) ?_
          rcases pb_any hx with ⟨yf, hg3, rfl⟩ | ⟨u, hg3, hx3⟩
          · refine Tm_ob (HB _ _ _ _ _ _ _ _ _ hg3 ρ' _ 100 1 0 (ZZ_PZ hZ1 hS1) (by decide) (by rw [m5]; exact hb1) (Nat.zero_le _) (by rw [m5]; omega) (by omega) (by decide) upd_same) (fun r2 hr2 => ?_)
            obtain ⟨⟨m, hB, _⟩, hF3⟩ := hr2
            rw [w'] at hF3
            rw [n2]
            refine Tm_chk (n_in (by omega) (by omega)) ?_
            rw [n_cl (p := c) (by omega)]
            show Tm (fun k => x_declareCallable k 24 N (mAr r2.2 17 c r2.1)) _
            refine Tm_suc (fun k => by rw [x_declareCallable]) ?_
            have hB2 : Bb yf m (mAr r2.2 17 c r2.1) := hB
            refine Tm_ob (b_wantWord hB2.1 _) (fun r3 hr3 => ?_)
            rw [hr3]
            exact ca_b26 hB2 (FrU_17 (FrU_tr hF2 (FrU_Z hF3)) 0)
          · refine Tm_ob (HB _ _ _ _ _ _ _ _ _ hg3 ρ' _ 100 1 0 (ZZ_PZ hZ1 hS1) (by decide) (by rw [m5]; exact hb1) (Nat.zero_le _) (by rw [m5]; omega) (by omega) (by decide) upd_same) (fun r2 hr2 => ?_)
            obtain ⟨hZ3, he3, hF3⟩ := hr2
            rw [w'] at hF3
            rw [n2, he3]
            refine Tm_chk (n_in (by omega) (by omega)) ?_
            rw [n_cl (p := c) (by omega)]
            show Tm (fun k => x_declareCallable k 24 N (mAr r2.2 17 c (hd u.2.2.2.1))) _
            have hS3 : PS T n t.2.1 0 u.1 u.2.1 u.2.2.2.2.1 (mAr r2.2 17 c (hd u.2.2.2.1)) := PS_ar hZ3.1 (Or.inl rfl)
            refine Tm_suc (fun k => by rw [x_declareCallable]) ?_
            refine Tm_ob (p_wantWord (M := 0) (P := 0) (w := c + 1) hS3 (s := 6) (by decide) upd_same) (fun r3 hr3 => ?_)
            have hF4 : FrU c σ (mAr r3.2 17 c (σ.2.2 17 c)) := by
              have g := FrU_17 (x := hd u.2.2.2.1) (FrU_tr hF2 (FrU_Z hF3)) 0
              obtain ⟨h1, h2, h3, h4, h5, h6, h7, h8⟩ := FrU_M hr3.1
              refine FrU_tr g ⟨h1, h2, fun j hj => ?_, fun i hi => ?_, fun i hi => ?_, fun i hi => ?_, fun i hi => ?_, fun z => ?_⟩
              · by_cases e : j = 17
                · subst e; rw [mAr_s, mAr_s, h3 17 (by decide)]
                · rw [mAr_o e, mAr_o e]; exact h3 j hj
              · rw [mAr_o (by decide), mAr_o (by decide)]; exact h4 i hi
              · rw [mAr_o (by decide), mAr_o (by decide)]; exact h5 i hi
              · rw [mAr_o (by decide), mAr_o (by decide)]; exact h6 i hi
              · rw [mAr_o (by decide), mAr_o (by decide)]; exact h7 i hi
              · rw [mAr_o (by decide)] at z ⊢; exact h8 z
            rcases pW_any hx3 with ⟨y3, rfl⟩ | ⟨y3, hx4⟩
            · rcases hr3.2 with ⟨_, hB⟩ | ⟨y4, _⟩
              · exact ca_b26 hB hF4
              · exact absurd y4 y3
            · rcases hr3.2 with ⟨y4, _⟩ | ⟨_, hS4⟩
              · exact absurd y3 y4
              · refine ca_26 hx4 hS4 hF4 (fun ρ'' hS' hF' => ⟨t.2.1, hS', m9, m8, ?_, ?_, by rw [hF'.2.2.1 19 (by decide), hr3.1.2.2.1 19 (by decide), mAr_o (by decide), hF3.2.2.1 19 (by decide), hV.2.2.1 19 (by decide)]⟩) w'
                · rw [hF'.2.2.1 17 (by decide), hr3.1.2.2.1 17 (by decide), mAr_s, upd_same]
                · refine ZZ_fr (PZ_ZZ hZ3) ?_ ?_ ?_ ?_ ?_ rfl rfl
                  · rw [hF'.1 44 (by decide), hr3.1.1 44 (by decide)]; rfl
                  · rw [hF'.1 45 (by decide), hr3.1.1 45 (by decide)]; rfl
                  · rw [hF'.2.2.1 10 (by decide), hr3.1.2.2.1 10 (by decide), mAr_o (by decide)]
                  · rw [hF'.2.2.1 11 (by decide), hr3.1.2.2.1 11 (by decide), mAr_o (by decide)]
                  · rw [hF'.2.2.1 19 (by decide), hr3.1.2.2.1 19 (by decide), mAr_o (by decide)]
end BOD
end JnS87
section JnS88
/-! Params: what they bring; that there is an answer. -/
section GPM
variable {T : Nat → Int32} {n : Nat} {pr : Bool} {p : Nat}
def MoA (T : Nat → Int32) (n p : Nat) (E : En) (q v : Nat) (b : BT) (r : PV6) : Prop := (r.2.1.1 = E.1 ∧ r.2.1.2.2.1 = E.2.2.1 ∧ r.2.1.2.2.2.1 = E.2.2.2.1 ∧ (∀ i, i ≠ p → r.2.1.2.2.2.2.2.2 i = E.2.2.2.2.2.2 i) ∧ r.2.1.2.2.2.2.2.2 p = r.2.2.1) ∧ q ≤ r.1 ∧ r.1 ≤ n ∧ v ≤ r.2.2.2.2.1 ∧ r.2.2.2.2.1 ≤ 60 ∧ r.2.2.2.2.2.1 = b.1 ∧ r.2.2.2.2.2.2.1 + q ≤ b.2.1 + r.1 ∧ b.2.1 ≤ r.2.2.2.2.2.2.1 ∧ tkK T n r.1 = 7
theorem gPI_any {β : Type} {E : En} {c q v : Nat} {b : BT} {k : Nat → DV → Option (Fl β)} {y : β} (hq : q ≤ n) (h : gPI T n pr E c q v b k = some (Sum.inr y)) : ∃ (m q1 : Nat), m ≤ 2 ∧ q ≤ q1 ∧ q1 ≤ n ∧ tlC T n E q1 v ∧ k m (tkN T n q1, eTl T n E q1 v b, v + 1, bTl T n E q1 v b) = some (Sum.inr y) := by
  have hN := tkN_b T n q hq
  unfold gPI at h
  have J : ∀ m q1 : Nat, m ≤ 2 → q ≤ q1 → q1 ≤ n → gPJ T n E c m q1 v b k = some (Sum.inr y) → ∃ (m q1 : Nat), m ≤ 2 ∧ q ≤ q1 ∧ q1 ≤ n ∧ tlC T n E q1 v ∧ k m (tkN T n q1, eTl T n E q1 v b, v + 1, bTl T n E q1 v b) = some (Sum.inr y) := by
    intro m q1 h1 h2 h3 hJ
    unfold gPJ at hJ
    by_cases c8 : c = 8
    · rw [if_pos c8] at hJ; cases hJ
    · rw [if_neg c8] at hJ
      rcases gTl_any hJ with ⟨_, z⟩ | ⟨z, hx⟩
      · cases z
      · exact ⟨m, q1, h1, h2, h3, z.1, hx⟩
  by_cases w : pr = true ∧ (tkK T n q = 35 ∨ tkK T n q = 36 ∨ tkK T n q = 37)
  · rw [if_pos w] at h
    rcases pT_any h with ⟨_, z⟩ | ⟨_, hx⟩
    · cases z
    · exact J _ _ (by omega) hN.1 hN.2.1 hx
  · rw [if_neg w] at h
    exact J 0 q (by decide) (Nat.le_refl _) hq h
theorem gpm_mo : ∀ (f : Nat) (E : En) (c : Nat) (md : Nat → Nat) (q v : Nat) (b : BT) (r : PV6), GPm T n pr p f E c md q v b = some (Sum.inr r) → q ≤ n → v ≤ 60 → E.2.2.2.2.2.2 p = c → MoA T n p E q v b r
  | 0, E, c, md, q, v, b, r, hG, hq, hv, he => by cases hG
  | f + 1, E, c, md, q, v, b, r, hG, hq, hv, he => by
    have ih := gpm_mo f
    have hN := tkN_b T n q hq
    rw [GPm] at hG
    have fin : tkK T n q = 7 → (some (Sum.inr (q, E, c, md, v, b)) : Option (Fl PV6)) = some (Sum.inr r) → MoA T n p E q v b r := fun z hx => by
      obtain rfl := Sum.inr.inj (Option.some.inj hx)
      exact ⟨⟨rfl, rfl, rfl, fun _ _ => rfl, he⟩, Nat.le_refl _, hq, Nat.le_refl _, hv, rfl, Nat.le_refl _, Nat.le_refl _, z⟩
    have it : ∀ q1 : Nat, q ≤ q1 → q1 ≤ n → gPI T n pr E c q1 v b (fun m r => GPm T n pr p f (sP r.2.1 p (c + 1)) (c + 1) (updN md c m) r.1 r.2.2.1 r.2.2.2) = some (Sum.inr r) → MoA T n p E q v b r := by
      intro q1 h1 h2 hx
      obtain ⟨m, q2, k1, k2, k3, k4, hy⟩ := gPI_any h2 hx
      have hN2 := tkN_b T n q2 k3
      have hE2 := tkE_b T n q2 k3
      obtain ⟨⟨a1, a2, a3, a4, a5⟩, a6, a7, a8, a9, a10, a11, a12, a13⟩ := ih _ _ _ _ _ _ _ hy hN2.2.1 (by have := k4.2.2; show v + 1 ≤ 60; omega) updN_s
      have a6 : tkN T n q2 ≤ r.1 := a6
      have a8 : v + 1 ≤ r.2.2.2.2.1 := a8
      have a11 : r.2.2.2.2.2.2.1 + tkN T n q2 ≤ b.2.1 + (tkE T n q2 - q2) + r.1 := a11
      have a12 : b.2.1 + (tkE T n q2 - q2) ≤ r.2.2.2.2.2.2.1 := a12
      exact ⟨⟨a1, a2, a3, fun i hi => (a4 i hi).trans (updN_o hi), a5⟩, by omega, a7, by omega, a9, a10, by omega, by omega, a13⟩
    by_cases c0 : c = 0
    · rw [if_pos c0] at hG
      by_cases z : tkK T n q = 7
      · rw [if_pos z] at hG; exact fin z hG
      · rw [if_neg z] at hG; exact it q (Nat.le_refl _) hq hG
    · rw [if_neg c0] at hG
      by_cases z : tkK T n q = 12
      · rw [if_pos z] at hG
        rcases pT_any hG with ⟨_, y⟩ | ⟨_, hx⟩
        · cases y
        · exact it _ hN.1 hN.2.1 hx
      · rw [if_neg z] at hG
        by_cases y : tkK T n q = 7
        · rw [if_pos y] at hG; exact fin y hG
        · rw [if_neg y] at hG; cases hG
theorem gPI_t {β : Type} {E : En} {c q v : Nat} {b : BT} {k : Nat → DV → Option (Fl β)} (hq : q ≤ n) (hk : ∀ m q1, q ≤ q1 → q1 ≤ n → tkK T n q1 = 26 → ∃ y, k m (tkN T n q1, eTl T n E q1 v b, v + 1, bTl T n E q1 v b) = some y) : ∃ y, gPI T n pr E c q v b k = some y := by
  have hN := tkN_b T n q hq
  unfold gPI
  have J : ∀ m q1 : Nat, q ≤ q1 → q1 ≤ n → ∃ y, gPJ T n E c m q1 v b k = some y := by
    intro m q1 h2 h3
    unfold gPJ
    by_cases c8 : c = 8
    · rw [if_pos c8]; exact ⟨_, rfl⟩
    · rw [if_neg c8]
      unfold gTl
      by_cases z : tlC T n E q1 v
      · rw [if_pos z]; exact pT_t (hk m q1 h2 h3 z.1)
      · rw [if_neg z]; exact ⟨_, rfl⟩
  by_cases w : pr = true ∧ (tkK T n q = 35 ∨ tkK T n q = 36 ∨ tkK T n q = 37)
  · rw [if_pos w]; exact pT_t (J _ _ hN.1 hN.2.1)
  · rw [if_neg w]; exact J 0 q (Nat.le_refl _) hq
theorem gpm_tot : ∀ (f : Nat) (E : En) (c : Nat) (md : Nat → Nat) (q v : Nat) (b : BT), q ≤ n → n - q + 1 ≤ f → ∃ y, GPm T n pr p f E c md q v b = some y
  | 0, E, c, md, q, v, b, hq, hf => absurd hf (by omega)
  | f + 1, E, c, md, q, v, b, hq, hf => by
    have ih := gpm_tot f
    have hN := tkN_b T n q hq
    rw [GPm]
    have it : ∀ q1 : Nat, q ≤ q1 → q1 ≤ n → ∃ y, gPI T n pr E c q1 v b (fun m r => GPm T n pr p f (sP r.2.1 p (c + 1)) (c + 1) (updN md c m) r.1 r.2.2.1 r.2.2.2) = some y := fun q1 h1 h2 => gPI_t h2 (fun m q2 k1 k2 k3 => by
      have hN2 := tkN_b T n q2 k2
      have := hN2.2.2.2 (by rw [k3]; decide)
      exact ih _ _ _ _ _ _ hN2.2.1 (by show n - tkN T n q2 + 1 ≤ f; omega))
    by_cases c0 : c = 0
    · rw [if_pos c0]
      by_cases z : tkK T n q = 7
      · rw [if_pos z]; exact ⟨_, rfl⟩
      · rw [if_neg z]; exact it q (Nat.le_refl _) hq
    · rw [if_neg c0]
      by_cases z : tkK T n q = 12
      · rw [if_pos z]; exact pT_t (it _ hN.1 hN.2.1)
      · rw [if_neg z]
        by_cases y : tkK T n q = 7
        · rw [if_pos y]; exact ⟨_, rfl⟩
        · rw [if_neg y]; exact ⟨_, rfl⟩
/-- params of the body -/
theorem gBod_tot {MD : Nat → Nat → Nat} {E : En} {q v : Nat} {b : BT} {s : SB} (hq : q ≤ n) (hv : v ≤ 60) (hb : 1 ≤ b.1) (hs : s.1 ≤ 400) (hw : ¬ E.2.2.2.1 = 0) : ∃ y, gBod T n pr MD E q v b s = some y := by
  have hN := tkN_b T n q hq
  unfold gBod
  by_cases h : pr = true
  · rw [if_pos h]
    refine pW_t (fun _ => pb_t (gvs_tot _ _ _ _ _ hN.2.1 hv (by unfold fu; omega)) (fun r hr => ?_))
    obtain ⟨m1, m2, m3, m4, m5, _⟩ := gvs_mo _ _ _ _ _ _ hN.2.1 hv hw hr
    refine pb_t (gs_tot _ 0 _ _ _ _ _ _ _ _ _ _ (by decide) m2 m4 hs (by rw [m5]; exact hb) (fun z => absurd z (by decide)) (by show 40 * (n - r.1) + 30 + 1 ≤ fu n; unfold fu; omega)) (fun t _ => ?_)
    exact pW_t (fun _ => pW_t (fun _ => ⟨_, rfl⟩))
  · rw [if_neg h]
    refine pW_t (fun _ => pb_t ?_ (fun t _ => pW_t (fun _ => ⟨_, rfl⟩)))
    exact g_tot T n _ 0 E 0 _ v 0 0 0 0 b (by decide) hN.2.1 hv hb trivial (by show 30 * (n - tkN T n q) + lvG 0 + 1 ≤ fu n; unfold fu; have : lvG 0 = 20 := rfl; omega)
theorem gCal_tot {E : En} {MD : Nat → Nat → Nat} {c pc v q : Nat} {b : BT} {s : SB} {F : Nat → Int32} (hq : q ≤ n) (hv : v ≤ 60) (hb : 1 ≤ b.1) (hs : s.1 ≤ 400) : ∃ y, gCal T n pr E MD c pc v b s F q = some y := by
  have hN := tkN_b T n q hq
  unfold gCal
  refine pT_t ?_
  by_cases c1 : nmC T n E c (tkN T n q)
  · rw [if_pos c1]
    have hN1 := tkN_b T n (tkN T n q) hN.2.1
    refine pT_t ?_
    by_cases c2 : tkK T n (tkN T n (tkN T n q)) = 6
    · rw [if_pos c2]
      unfold gCb
      have hN2 := tkN_b T n _ hN1.2.1
      refine pT_t (pb_t (gpm_tot _ _ _ _ _ _ _ hN2.2.1 (by unfold fu; omega)) (fun a ha => ?_))
      obtain ⟨⟨a1, a2, a3, a4, a5⟩, a6, a7, a8, a9, a10, a11, a12, a13⟩ := gpm_mo _ _ _ _ _ _ _ _ ha hN2.2.1 (by decide) updN_s
      have hN3 := tkN_b T n _ a7
      exact pT_t (pb_t (gBod_tot hN3.2.1 a9 (by rw [a10]; exact hb) hs (by rw [a3]; show ¬ c + 1 = 0; omega)) (fun z _ => ⟨_, rfl⟩))
    · rw [if_neg c2]; exact ⟨_, rfl⟩
  · rw [if_neg c1]; exact ⟨_, rfl⟩
end GPM
end JnS88
section JnS89
variable {yf : Nat × Nat}
/-! A func or proc of the reference. -/
def PA (σ : MS) : Prop := ∀ p, p < 41 → ∃ k, k ≤ 8 ∧ σ.2.2 18 p = nI k
/-- what the reading of a program leaves as it is -/
def FrP (σ σ' : MS) : Prop :=
  (∀ j, ¬ ((5 ≤ j ∧ j ≤ 13) ∨ j = 22 ∨ j = 24 ∨ j = 25 ∨ j = 30 ∨ j = 31 ∨ j = 37 ∨ j = 38 ∨ (42 ≤ j ∧ j ≤ 48) ∨ j = 52 ∨ j = 110) → σ'.1 j = σ.1 j) ∧ σ'.2.1 = σ.2.1 ∧ (∀ j, ¬ (4 ≤ j ∧ j ≤ 27) → σ'.2.2 j = σ.2.2 j) ∧ (PA σ → PA σ')
theorem FrP_rf {σ : MS} : FrP σ σ := ⟨fun _ _ => rfl, rfl, fun _ _ => rfl, fun z => z⟩
theorem FrP_tr {σ τ υ : MS} (h : FrP σ τ) (g : FrP τ υ) : FrP σ υ := ⟨fun j hj => (g.1 j hj).trans (h.1 j hj), g.2.1.trans h.2.1, fun j hj => (g.2.2.1 j hj).trans (h.2.2.1 j hj), fun z => g.2.2.2 (h.2.2.2 z)⟩
theorem FrP_U {c : Nat} {σ τ : MS} (hc : c ≤ 40) (h : FrU c σ τ) : FrP σ τ := ⟨fun j hj => h.1 j (by omega), h.2.1, fun j hj => h.2.2.1 j (by omega), fun z p hp => by
  by_cases e : p = c
  · subst e; exact h.2.2.2.2.2.2.2 (z p hp)
  · rw [h.2.2.2.1 p e]; exact z p hp⟩
theorem FrP_V {w : Nat} {σ τ : MS} (h : FrV w σ τ) : FrP σ τ := ⟨fun j hj => h.1 j (by omega), h.2.1, fun j hj => h.2.2.1 j (by omega), fun z p hp => by rw [h.2.2.1 18 (by decide)]; exact z p hp⟩
theorem FrP_Z {M P w : Nat} {σ τ : MS} (h : FrZ M P w σ τ) : FrP σ τ := ⟨fun j hj => h.1 j (by omega), h.2.1, fun j hj => h.2.2.1 j (by omega), fun z p hp => by rw [h.2.2.1 18 (by decide)]; exact z p hp⟩
theorem FrP_s {σ : MS} {u : Nat → Int32} (h : ∀ j, ¬ ((5 ≤ j ∧ j ≤ 13) ∨ j = 22 ∨ j = 24 ∨ j = 25 ∨ j = 30 ∨ j = 31 ∨ j = 37 ∨ j = 38 ∨ (42 ≤ j ∧ j ≤ 48) ∨ j = 52 ∨ j = 110) → u j = σ.1 j) : FrP σ (u, σ.2.1, σ.2.2) := ⟨h, rfl, fun _ _ => rfl, fun z => z⟩
theorem FrP_17 {c : Nat} {σ τ : MS} {x : Int32} (h : FrP σ (mAr τ 17 c x)) : FrP σ τ := ⟨h.1, h.2.1, fun j hj => by rw [← h.2.2.1 j hj, mAr_o (by omega)], fun z p hp => by have := h.2.2.2 z p hp; rw [mAr_o (by decide)] at this; exact this⟩
theorem FrP_out {σ : MS} : FrP σ (mOut σ) := FrP_s (fun j hj => by rw [upd_other (by omega), upd_other (by omega), upd_other (by omega), upd_other (by omega)])
theorem FrP_un {c : Nat} {σ : MS} {x y : Int32} : FrP σ (mUn σ c x y) := ⟨fun j hj => mUn_s (by omega), rfl, fun j hj => mUn_o (by omega), fun z p hp => by
  rw [mUn_18]
  by_cases e : p = c
  · rw [e, upd_same]; exact ⟨0, by decide, rfl⟩
  · rw [upd_other e]; exact z p hp⟩
/-- the state before a declaration -/
def PD (T : Nat → Int32) (n : Nat) (g : PRG) (σ : MS) : Prop :=
  PS T n g.2.1 0 g.1 g.2.2.2.2.2.1 g.2.2.2.2.2.2.1 σ ∧ ZZ g.2.2.1 g.2.1 g.2.2.2.2.2.2.2.1 σ ∧ (σ.1 30 = nI g.2.2.2.1 ∧ g.2.2.2.1 ≤ 40 ∧ σ.1 31 = nI g.2.2.2.2.1 ∧ g.2.2.2.2.1 ≤ g.2.2.2.1) ∧ (g.2.1.2.1 = [] ∧ g.2.1.2.2.1 = [] ∧ g.2.1.2.2.2.1 = 0) ∧ g.2.1.1.length = g.2.2.2.2.2.1 + g.2.2.2.1 ∧ (∀ x ∈ g.2.1.1, ¬ x.2.2.1 = 1 → x.2.2.2 < g.2.2.2.1) ∧ (∀ i, i < g.2.2.2.1 → σ.2.2 17 i = g.2.2.2.2.2.2.2.2 i ∧ UnO σ g.2.2.2.2.2.2.2.2 i ∧ MoO σ g.2.1 g.2.2.1 i) ∧ PA σ
def PoP (T : Nat → Int32) (n : Nat) (σ0 : MS) : Fl PRG → Int32 × MS → Prop
  | Sum.inl yf, r => (∃ m, Bb yf m r.2) ∧ FrP σ0 r.2
  | Sum.inr g, r => PD T n g r.2 ∧ FrP σ0 r.2
section CAB
variable {T : Nat → Int32} {n : Nat} {E : En} {o q v c : Nat} {b : BT} {σ : MS}
theorem PS_sp {k : Nat} (h : PS T n E o q v b σ) (hE : ∀ x ∈ E.1, ¬ x.2.2.1 = 1 → x.2.2.2 < c) : PS T n (sP E c k) o q v b σ := by
  obtain ⟨s1, s2, s3, s4, s5, s6⟩ := h
  refine ⟨s1, s2, s3, s4, s5, s6.1, s6.2.1, fun x hx hn => ?_⟩
  have := hE x hx hn
  show x.2.2.2 < 41 ∧ σ.2.2 18 x.2.2.2 = nI (updN E.2.2.2.2.2.2 c k x.2.2.2) ∧ updN E.2.2.2.2.2.2 c k x.2.2.2 ≤ 8
  rw [updN_o (by omega)]; exact s6.2.2 x hx hn
theorem n_sub1 {o : Nat} (h : o < 2147483647) : nI (o + 1) - 1 = nI o := by
  have := n_sub (p := o + 1) (q := 1) (by omega) (by omega)
  exact this
/-- from the unit's entry on -/
theorem ca_18 {pr : Bool} {MD : Nat → Nat → Nat} {pc v0 : Nat} {b0 b1 : BT} {s : SB} {F : Nat → Int32} {E0 E1 : En} {x : Fl PRG} {ρ : MS} {N : Nat → Int32} (hG : gCb T n pr E0 MD c pc v0 b0 b1 s F E1 q = some x) (h : PS T n E1 0 q 0 b1 ρ) (e1 : E1.2.2.2.1 = c + 1) (e2 : E1.2.2.1 = []) (e3 : E1.2.2.2.2.2.2 c = 0) (hMD : PMs ρ E0 MD) (hE0 : ∀ y ∈ E1.1, y.2.2.1 = 3 → y ∈ E0.1 ∨ y.2.2.2 = c) (hE1 : ∀ y ∈ E0.1, ¬ y.2.2.1 = 1 → y.2.2.2 < c) (hpar : ∀ i, i ≠ c → E1.2.2.2.2.2.2 i = E0.2.2.2.2.2.2 i)
    (h45 : ρ.1 45 = nI 0) (h44 : ρ.1 44 = nI s.1) (hs : s.1 ≤ 400) (h10 : ∀ i, ρ.2.2 10 i = s.2.1 i ∧ ρ.2.2 11 i = s.2.2 i) (hc : c < 40) (hn : b1.1 + (n + 1 - q) + 1067 ≤ 70000) (hp : b1.2.1 + (n - q) ≤ 70000) (n1 : N 1 = 0 ↔ pr = false) (n2 : N 2 = nI c)
    (h30 : ρ.1 30 = nI (c + 1)) (h31 : ρ.1 31 = nI (if pr = true then pc + 1 else pc)) (hpc : pc ≤ c) (h21 : ρ.2.2 21 0 = nI v0) (hv0 : v0 ≤ 60) (h20 : ∀ i, i < v0 → ρ.2.2 20 i = b0.2.2.2.2 i) (hl : E1.1.length = v0 + (c + 1)) (hk : ∀ y ∈ E1.1, ¬ y.2.2.1 = 1 → y.2.2.2 < c + 1) (h17 : ∀ i, i < c → ρ.2.2 17 i = F i ∧ UnO ρ F i ∧ MoO ρ E0 MD i) (hA : PA ρ) (hcE : ∃ y ∈ E1.1, ¬ y.2.2.1 = 1 ∧ y.2.2.2 = c) : Tm (fun k => x_declareCallable k 18 N ρ) (PoP T n ρ x) := by
  have hN := tkN_b T n q (PS_q h).1
  -- what comes of the end
  have fin : ∀ (y : Fl BD) (Q : Nat → Int32 × Nat → BT → SB → MS → Prop), (∀ t, y = Sum.inr t → ∀ ρ', Q t.1 t.2.1 t.2.2.1 t.2.2.2 ρ' → FrU c ρ (mAr ρ' 17 c (ρ.2.2 17 c)) → ∃ g, x = Sum.inr g ∧ PD T n g (mOut ρ')) → (∀ z, y = Sum.inl z → x = Sum.inl z) → ∀ g, Tm g (PoE T n c ρ Q y) → Tm g (PoP T n ρ x) := by
    intro y Q h1 h2 g hg
    refine Tm_mono hg (fun r hr => ?_)
    cases y with
    | inl yf =>
      obtain ⟨ρ', e, ⟨m, hB⟩, hF⟩ := hr
      rw [h2 _ rfl]
      refine ⟨⟨m, ?_⟩, ?_⟩
      · rw [e]; exact Bb_f hB (fun j hj => mOut_s (by omega))
      · rw [e]; exact FrP_tr (FrP_17 (FrP_U (by omega) hF)) FrP_out
    | inr t =>
      obtain ⟨ρ', e, hQ, hF⟩ := hr
      obtain ⟨g, hx, hPD⟩ := h1 t rfl ρ' hQ hF
      rw [hx]
      refine ⟨by rw [e]; exact hPD, ?_⟩
      rw [e]; exact FrP_tr (FrP_17 (FrP_U (by omega) hF)) FrP_out
  have bad : ∀ {yf : Nat × Nat} (m : Nat) (τ : MS), x = Sum.inl yf → Bb yf m τ → FrU c ρ τ → Tm (fun k => x_declareCallable k 19 N τ) (PoP T n ρ x) := fun {yf} m τ hx hB hF => fin (Sum.inl _) (fun _ _ _ _ _ => False) (fun t ht => by cases ht) (fun z hz => by cases hz; exact hx) _ (ca_b19 (by omega) n2 hB hF)
  have bad20 : ∀ {yf : Nat × Nat} (m : Nat) (τ : MS), x = Sum.inl yf → Bb yf m τ → FrU c ρ τ → Tm (fun k => x_declareCallable k 20 N τ) (PoP T n ρ x) := fun {yf} m τ hx hB hF => fin (Sum.inl _) (fun _ _ _ _ _ => False) (fun t ht => by cases ht) (fun z hz => by cases hz; exact hx) _ (ca_b20 (by omega) n2 hB hF)
  unfold gCb at hG
  refine Tm_suc (fun k => by rw [x_declareCallable]) ?_
  refine Tm_ob (p_open (M := 0) (P := 0) (w := c + 1) h _) (fun r hr => ?_)
  obtain ⟨hF1, hr⟩ := hr
  rcases hr with ⟨z, _⟩ | ⟨_, hS1, _⟩
  · exact absurd z (by decide)
  refine Tm_ite (fun _ => ?_) (fun z => absurd (PS_ok hS1) z)
  refine Tm_ob (v_take (w := c + 1) hS1 _) (fun r2 hr2 => ?_)
  have hU2 := FrU_tr (FrU_M hF1) (FrU_V hr2.1)
  rcases pT_any hG with ⟨z, hx⟩ | ⟨z, hg⟩
  · rcases hr2.2 with ⟨_, hB⟩ | ⟨y, _⟩
    · exact bad _ _ hx hB hU2
    · exact absurd z y
  rcases hr2.2 with ⟨y, _⟩ | ⟨_, hS2⟩
  · exact absurd y z
  refine Tm_suc (fun k => by rw [x_declareCallable]) ?_
  have call : ∀ y : Fl PV6, GPm T n pr c (fu n) E1 0 (fun _ => 0) (tkN T n q) 0 b1 = some y → Tm (fun k => x_paramsOf k 0 (upd (upd (fun _ => 0) 1 (N 2)) 2 (N 1)) r2.2) (PoA T n 1 c r2.2 y) := by
    intro y hy
    refine Tm_suc (fun k => by rw [x_paramsOf]) ?_
    exact p_pm (by omega) _ _ _ _ _ _ _ _ hy _ _ hS2 (by omega) (by decide) (fun i hi => absurd hi (Nat.not_lt_zero i)) (by rw [upd_other (by decide), upd_other (by decide), upd_same]; exact n2) (by rw [upd_other (by decide), upd_same]; exact n1) upd_same e1
  rcases pb_any hg with ⟨yf, hg2, hx⟩ | ⟨a, hg2, hg3⟩
  · refine Tm_ob (call _ hg2) (fun r3 hr3 => ?_)
    obtain ⟨⟨m, hB⟩, hF3⟩ := hr3
    refine Tm_ite (fun z => absurd z hB.1) (fun _ => ?_)
    exact bad20 m _ hx hB (FrU_tr hU2 (FrU_A hF3))
  refine Tm_ob (call _ hg2) (fun r3 hr3 => ?_)
  obtain ⟨hS3, hF3, hcnt, hmd⟩ := hr3
  obtain ⟨⟨a1, a2, a3, a4, a5⟩, a6, a7, a8, a9, a10, a11, a12, a13⟩ := gpm_mo _ _ _ _ _ _ _ _ hg2 hN.2.1 (by decide) e3
  have hN3 := tkN_b T n _ a7
  refine Tm_ite (fun _ => ?_) (fun z => absurd (PS_ok hS3) z)
  refine Tm_ob (v_take (w := c + 1) hS3 _) (fun r4 hr4 => ?_)
  have hU4 := FrU_tr hU2 (FrU_tr (FrU_A hF3) (FrU_V hr4.1))
  rcases pT_any hg3 with ⟨z, hx⟩ | ⟨z, hg4⟩
  · rcases hr4.2 with ⟨_, hB⟩ | ⟨y, _⟩
    · exact bad20 _ _ hx hB hU4
    · exact absurd z y
  rcases hr4.2 with ⟨y, _⟩ | ⟨_, hS4⟩
  · exact absurd y z
  refine Tm_suc (fun k => by rw [x_declareCallable]) ?_
  have o13 : r4.2.1 13 = nI (0 + 1) := hS4.2.1.1
  rw [o13, n_sub1 (by decide)]
  show Tm (fun k => x_declareCallable k 21 N (mOpn r4.2 (nI 0))) _
  have hS5 : PS T n a.2.1 0 (tkN T n a.1) a.2.2.2.2.1 a.2.2.2.2.2 (mOpn r4.2 (nI 0)) := PS_opn hS4 (by decide)
  have hU5 : FrU c ρ (mOpn r4.2 (nI 0)) := FrU_tr hU4 (FrU_opn _)
  have w5 : a.2.1.2.2.2.1 = c + 1 := a3.trans e1
  have s44 : (mOpn r4.2 (nI 0)).1 44 = ρ.1 44 := by
    show upd r4.2.1 13 (nI 0) 44 = _
    rw [upd_other (by decide), hr4.1.1 44 (by decide), hF3.1 44 (by decide), hr2.1.1 44 (by decide), hF1.1 44 (by decide)]
  have s45 : (mOpn r4.2 (nI 0)).1 45 = ρ.1 45 := by
    show upd r4.2.1 13 (nI 0) 45 = _
    rw [upd_other (by decide), hr4.1.1 45 (by decide), hF3.1 45 (by decide), hr2.1.1 45 (by decide), hF1.1 45 (by decide)]
  have s10 : ∀ j, j = 10 ∨ j = 11 → (mOpn r4.2 (nI 0)).2.2 j = ρ.2.2 j := fun j hj => by
    show r4.2.2.2 j = _
    rw [hr4.1.2.2.1 j (by omega), hF3.2.2.1 j (by omega), hr2.1.2.2.1 j (by omega), hF1.2.2.1 j (by omega)]
  have hZ5 : ZZ (fun p => if p = c then a.2.2.2.1 else MD p) a.2.1 s (mOpn r4.2 (nI 0)) := by
    refine ⟨fun y hy hk3 i hi => ?_, s45.trans h45, s44.trans h44, hs, fun i => ?_⟩
    · show r4.2.2.2 19 (8 * y.2.2.2 + i) = nI ((if y.2.2.2 = c then a.2.2.2.1 else MD y.2.2.2) i) ∧ (if y.2.2.2 = c then a.2.2.2.1 else MD y.2.2.2) i ≤ 2
      rw [a1] at hy
      rw [hr4.1.2.2.1 19 (by decide)]
      by_cases e : y.2.2.2 = c
      · rw [e, if_pos rfl]
        rw [e, a5] at hi
        exact hmd i hi
      · rw [if_neg e]
        rcases hE0 y hy hk3 with hy0 | hy0
        · rw [a4 _ e, hpar _ e] at hi
          have hlt := hE1 y hy0 (by rw [hk3]; decide)
          have hi8 : i < 8 := by
            have := (h.2.2.2.2.2.2.2 y hy (by rw [hk3]; decide)).2.2
            rw [hpar _ e] at this
            omega
          rw [hF3.2.2.2.2.1 _ (by omega), hr2.1.2.2.1 19 (by decide), hF1.2.2.1 19 (by decide)]
          exact hMD y hy0 hk3 i hi
        · exact absurd hy0 e
    · rw [s10 10 (by decide), s10 11 (by decide)]; exact h10 i
  have hb5 : a.2.2.2.2.2.1 + (n + 1 - tkN T n a.1) + 1067 ≤ 70000 := by rw [a10]; omega
  have hp5 : a.2.2.2.2.2.2.1 + (n - tkN T n a.1) ≤ 70000 := by omega
  rcases pb_any hg4 with ⟨yf, hg5, hx⟩ | ⟨t, hg5, hx⟩
  · exact fin (Sum.inl yf) _ (fun t ht => by cases ht) (fun z hz => by cases hz; exact hx) _ (ca_body hg5 hS5 hZ5 w5 (by omega) hb5 hp5 hU5 n1 n2)
  · refine fin (Sum.inr t) _ (fun t' ht ρ' hQ hF => ?_) (fun z hz => by cases hz) _ (ca_body hg5 hS5 hZ5 w5 (by omega) hb5 hp5 hU5 n1 n2)
    obtain rfl := Sum.inr.inj ht
    obtain rfl := Option.some.inj hx
    obtain ⟨E', q1, q2, q3, q4, q5, q6⟩ := hQ
    have w6 : E'.2.2.2.1 = c + 1 := by rw [q3]; exact w5
    obtain ⟨_, _, v21, v60, v20⟩ := id q1.2.2.2.1
    rw [w6] at v21 v20
    refine ⟨_, rfl, ?_, ?_, ⟨?_, ?_, ?_, ?_⟩, ⟨rfl, rfl, rfl⟩, ?_, ?_, ?_, ?_⟩
    · have hh := PS_out (v0 := v0) (cn := b0.2.2.2.2) q1 (by rw [q3, a2]; exact e2) (by have := hF.2.2.2.2.2.1 0 (by omega); rw [mAr_o (by decide)] at this; rw [this]; exact h21) hv0 (fun i hi => by have := hF.2.2.2.2.2.2.1 i (by omega); rw [mAr_o (by decide)] at this; rw [this]; exact h20 i hi)
      rw [q2, q3] at hh
      exact hh
    · refine ZZ_fr q5 (mOut_s (by decide)) (mOut_s (by decide)) rfl rfl rfl q2.symm ?_
      show a.2.1.2.2.2.2.2.2 = E'.2.2.2.2.2.2
      rw [q3]
    · rw [mOut_s (by decide)]; exact (hF.1 30 (by decide)).trans h30
    · show c + 1 ≤ 40; omega
    · rw [mOut_s (by decide)]; exact (hF.1 31 (by decide)).trans h31
    · show (if pr = true then pc + 1 else pc) ≤ c + 1
      by_cases e : pr = true
      · rw [if_pos e]; omega
      · rw [if_neg e]; omega
    · show a.2.1.1.length = v0 + (c + 1); rw [a1]; exact hl
    · show ∀ y ∈ a.2.1.1, ¬ y.2.2.1 = 1 → y.2.2.2 < c + 1; rw [a1]; exact hk
    · intro i hi
      have hi : i < c + 1 := hi
      show ρ'.2.2 17 i = upF F c t.2.1 t.2.2.1.2.2.2.2 i ∧ UnO (mOut ρ') (upF F c t.2.1 t.2.2.1.2.2.2.2) i ∧ MoO (mOut ρ') (a.2.1.1, [], [], 0, true, true, a.2.1.2.2.2.2.2.2) (fun p => if p = c then a.2.2.2.1 else MD p) i
      by_cases e : i = c
      · rw [e, upF_c]
        refine ⟨q4, ⟨t.2.1.2, v60, upF_h, ?_, fun s hs => ?_⟩, ?_, fun j hj => ?_⟩
        · show ρ'.2.2 21 (1 + c) = _
          rw [Nat.add_comm 1 c]; exact v21
        · show ρ'.2.2 20 (60 * (1 + c) + s) = _
          rw [upF_s hc (by omega), Nat.add_comm 1 c]; exact v20 s hs
        · obtain ⟨y, y1, y2, y3⟩ := hcE
          have := (hS5.2.2.2.2.2.2.2 y (by rw [a1]; exact y1) y2).2.2
          rw [y3] at this; exact this
        · have hj : j < a.2.1.2.2.2.2.2.2 c := hj
          rw [a5] at hj
          show ρ'.2.2 19 (8 * c + j) = nI ((if c = c then a.2.2.2.1 else MD c) j) ∧ (if c = c then a.2.2.2.1 else MD c) j ≤ 2
          rw [if_pos rfl, q6]
          show r4.2.2.2 19 (8 * c + j) = _ ∧ _
          rw [hr4.1.2.2.1 19 (by decide)]
          exact hmd j hj
      · refine ⟨?_, UnO_fr (h17 i (by omega)).2.1 ?_ (fun s hs => ?_) (upF_o (by omega)) (fun s hs => upF_o (by omega)), MoO_fr (h17 i (by omega)).2.2 (fun j hj => ?_) ((a4 i e).trans (hpar i e)) (if_neg e)⟩
        · rw [upF_o (by omega), ← (h17 i (by omega)).1, ← hF.2.2.1 17 (by decide), mAr_s, upd_other e]
        · show ρ'.2.2 21 (1 + i) = _
          have := hF.2.2.2.2.2.1 (1 + i) (by omega)
          rw [mAr_o (by decide)] at this; exact this
        · show ρ'.2.2 20 (60 * (1 + i) + s) = _
          have := hF.2.2.2.2.2.2.1 (60 * (1 + i) + s) (by omega)
          rw [mAr_o (by decide)] at this; exact this
        · show ρ'.2.2 19 (8 * i + j) = _
          have := hF.2.2.2.2.1 (8 * i + j) (by omega)
          rw [mAr_o (by decide)] at this; exact this
    · exact ((FrP_17 (FrP_U (by omega) hF)).2.2.2 hA)
end CAB
end JnS89
section JnS90
variable {yf : Nat × Nat}
/-! A func or proc of the reference, from its first word on. -/
section CAC
variable {T : Nat → Int32} {n : Nat}
/-- the unit is entered -/
theorem ca_8 {c pc : Nat} {pr : Bool} {τ : MS} {N : Nat → Int32} {R : Int32 × MS → Prop} (hc : c < 40) (hpc : pc ≤ c) (h30 : τ.1 30 = nI c) (h31 : τ.1 31 = nI pc) (n1 : N 1 = nI (if pr = true then 1 else 0)) (n2 : N 2 = nI c) (H : ∀ N' : Nat → Int32, N' 1 = N 1 → N' 2 = N 2 → Tm (fun k => x_declareCallable k 18 N' (mUn τ c (nI (if pr = true then pc + 1 else pc)) (N 1))) R) : Tm (fun k => x_declareCallable k 8 N τ) R := by
  have l01 : N 1 = 0 ∨ N 1 = 1 := by
    rw [n1]
    by_cases e : pr = true
    · rw [if_pos e]; exact Or.inr rfl
    · rw [if_neg e]; exact Or.inl rfl
  have t11 : ∀ (N' : Nat → Int32) (y : Int32), N' 1 = N 1 → N' 2 = N 2 → N' 101 + N' 100 = y → Tm (fun k => x_declareCallable k 18 N' (mUn τ c y (N 1))) R → Tm (fun k => x_declareCallable k 11 N' (upd τ.1 30 (nI (c + 1)), τ.2.1, τ.2.2)) R := by
    intro N' y m1 m2 m3 hR
    refine Tm_suc (fun k => by rw [x_declareCallable]) ?_
    rw [m3]
    refine Tm_suc (fun k => by rw [x_declareCallable]) ?_
    have e37 : (1 : Int32) + N' 2 = nI (c + 1) := by
      rw [m2, n2]
      have := n_add (p := 1) (q := c) (by omega)
      rw [show nI (c + 1) = nI (1 + c) by rw [Nat.add_comm]]
      exact this
    rw [e37]
    refine Tm_suc (fun k => by rw [x_declareCallable]) ?_
    show Tm (fun k => if ¬ (nI (c + 1) < 0 ∨ 43 ≤ (nI (c + 1)).toNatClampNeg) then x_declareCallable k 14 N' (upd (upd (upd τ.1 30 (nI (c + 1))) 31 y) 37 (nI (c + 1)), τ.2.1, updG τ.2.2 21 (upd (τ.2.2 21) (nI (c + 1)).toNatClampNeg 0)) else none) R
    refine Tm_chk (n_in (by omega) (by omega)) ?_
    rw [n_cl (p := c + 1) (by omega)]
    refine Tm_suc (fun k => by rw [x_declareCallable]) ?_
    refine Tm_suc (fun k => by rw [x_declareCallable]) ?_
    rw [m2, n2]
    refine Tm_chk (n_in (by omega) (by omega)) ?_
    rw [n_cl (p := c) (by omega)]
    refine Tm_suc (fun k => by rw [x_declareCallable]) ?_
    rw [m1]
    refine Tm_chk l01 ?_
    refine Tm_suc (fun k => by rw [x_declareCallable]) ?_
    rw [m1]
    refine Tm_chk l01 ?_
    exact hR
  refine Tm_suc (fun k => by rw [x_declareCallable]) ?_
  rw [h30, n_add1]
  refine Tm_suc (fun k => by rw [x_declareCallable]) ?_
  show Tm (fun k => if N 1 = 0 then x_declareCallable k 10 (upd N 100 (upd τ.1 30 (nI (c + 1)) 31)) (upd τ.1 30 (nI (c + 1)), τ.2.1, τ.2.2) else x_declareCallable k 11 (upd (upd N 100 1) 101 (upd τ.1 30 (nI (c + 1)) 31)) (upd τ.1 30 (nI (c + 1)), τ.2.1, τ.2.2)) R
  rw [upd_other (by decide), h31]
  refine Tm_ite (fun z => ?_) (fun z => ?_)
  · have e : ¬ pr = true := fun e => by rw [n1, if_pos e] at z; exact absurd z (by decide)
    refine Tm_suc (fun k => by rw [x_declareCallable]) ?_
    refine t11 _ (nI pc) ?_ ?_ ?_ ?_
    · rw [upd_other (by decide), upd_other (by decide), upd_other (by decide)]
    · rw [upd_other (by decide), upd_other (by decide), upd_other (by decide)]
    · show nI pc + 0 = nI pc
      exact n_add (p := pc) (q := 0) (by omega)
    · have := H (upd (upd (upd N 100 (nI pc)) 100 0) 101 (upd N 100 (nI pc) 100)) (by rw [upd_other (by decide), upd_other (by decide), upd_other (by decide)]) (by rw [upd_other (by decide), upd_other (by decide), upd_other (by decide)])
      rw [if_neg e] at this
      exact this
  · have e : pr = true := by
      by_cases e : pr = true
      · exact e
      · rw [n1, if_neg e] at z; exact absurd rfl z
    refine t11 _ (nI (pc + 1)) ?_ ?_ ?_ ?_
    · rw [upd_other (by decide), upd_other (by decide)]
    · rw [upd_other (by decide), upd_other (by decide)]
    · rw [upd_same, upd_other (by decide), upd_same, n_add1]
    · have := H (upd (upd N 100 1) 101 (nI pc)) (by rw [upd_other (by decide), upd_other (by decide)]) (by rw [upd_other (by decide), upd_other (by decide)])
      rw [if_pos e] at this
      exact this
theorem p_callable {pr : Bool} {E : En} {MD : Nat → Nat → Nat} {c pc v q : Nat} {b : BT} {s : SB} {F : Nat → Int32} {x : Fl PRG} {σ : MS} {L : Nat → Int32} (hG : gCal T n pr E MD c pc v b s F q = some x) (hD : PD T n (q, E, MD, c, pc, v, b, s, F) σ) (hn : b.1 + (n + 1 - q) + 1067 ≤ 70000) (hp : b.2.1 + (n - q) ≤ 70000) (hL : L 1 = nI (if pr = true then 1 else 0)) : Tm (fun k => x_declareCallable k 0 L σ) (PoP T n σ x) := by
  obtain ⟨h, hZ, ⟨h30, hc, h31, hpc⟩, ⟨hE1, hE2, hE3⟩, hl, hk, h17, hA⟩ := hD
  have h : PS T n E 0 q v b σ := h
  have hZ : ZZ MD E s σ := hZ
  have h30 : σ.1 30 = nI c := h30
  have hc : c ≤ 40 := hc
  have h31 : σ.1 31 = nI pc := h31
  have hpc : pc ≤ c := hpc
  have hE1 : E.2.1 = [] := hE1
  have hE2 : E.2.2.1 = [] := hE2
  have hE3 : E.2.2.2.1 = 0 := hE3
  have hl : E.1.length = v + c := hl
  have hk : ∀ x ∈ E.1, ¬ x.2.2.1 = 1 → x.2.2.2 < c := hk
  have h17 : ∀ i, i < c → σ.2.2 17 i = F i ∧ UnO σ F i ∧ MoO σ E MD i := h17
  have hN := tkN_b T n q (PS_q h).1
  have hv := PS_v h
  unfold gCal at hG
  have bad : ∀ {yf : Nat × Nat} (m : Nat) (τ : MS), x = Sum.inl yf → Bb yf m τ → FrV 0 σ τ → ∀ a : Int32, PoP T n σ x (a, τ) := fun {yf} m τ hx hB hV a => by rw [hx]; exact ⟨⟨m, hB⟩, FrP_V hV⟩
  refine Tm_suc (fun k => by rw [x_declareCallable]) ?_
  refine Tm_ob (v_take (w := 0) h _) (fun r1 hr1 => ?_)
  rcases pT_any hG with ⟨z, hx⟩ | ⟨z, hG⟩
  · rcases hr1.2 with ⟨_, hB⟩ | ⟨y, _⟩
    · refine Tm_ob (b_wantName hB.1 _) (fun r2 hr2 => ?_)
      rw [hr2]
      exact Tm_ite (fun z => absurd z hB.1) (fun _ => Tm_some (bad _ _ hx hB hr1.1 _))
    · exact absurd z y
  rcases hr1.2 with ⟨y, _⟩ | ⟨_, hS1⟩
  · exact absurd y z
  have hN1 := tkN_b T n (tkN T n q) hN.2.1
  have hE1b := tkE_b T n (tkN T n q) hN.2.1
  refine Tm_ob (v_wantName (w := 0) hS1 _) (fun r2 hr2 => ?_)
  rcases hr2 with ⟨x1, x2, x3⟩ | ⟨x1, x2⟩
  · have hx : x = Sum.inl (2, tkN T n q) := by rw [if_neg (fun w => x1 w.1), caF_2 x1] at hG; exact (Option.some.inj hG).symm
    exact Tm_ite (fun z => absurd z x2.1) (fun _ => Tm_some (bad _ _ hx x2 (FrV_tr hr1.1 x3) _))
  rw [x2]
  refine Tm_ite (fun _ => ?_) (fun z => absurd (PS_ok hS1) z)
  refine Tm_suc (fun k => by rw [x_declareCallable]) ?_
  refine Tm_ob (v_find (w := 0) hS1 (by omega) _) (fun r3 hr3 => ?_)
  obtain ⟨hS3, hV3, h46, hle⟩ := hr3
  have hV3 := FrV_tr hr1.1 hV3
  rw [h46]
  -- a fault behind the name
  have flt : ∀ (y0 : Nat × Nat) (a : Int32) (p : Int32), a = nI y0.1 → p = nI y0.2 → x = Sum.inl y0 → Tm (fun k => x_declareCallable k 3 L (mFlt r3.2 a p)) (PoP T n σ x) := fun y0 a p ha hp hx => by
    have hB := flt_b (M := 0) (P := 0) (w := 0) (yf := y0) (PS_ok hS3) (PS_m hS3) ha hp
    refine Tm_suc (fun k => by rw [x_declareCallable]) ?_
    exact Tm_ite (fun z => absurd z hB.1.1) (fun _ => Tm_some (bad _ _ hx hB.1 (FrV_tr hV3 (FrV_flt _ _)) _))
  refine Tm_ite (fun z => ?_) (fun z => ?_)
  case refine_2 =>
    have z0 : ¬ (fd E (tkS T n (tkN T n q))).1 = 0 := fun y => z ((n_le0 (by omega)).mpr y)
    refine Tm_ob (s_fault _ r3.2) (fun r4 hr4 => ?_)
    have hr4 : r4 = (0, mFlt r3.2 4 (r3.2.1 8)) := hr4
    subst hr4
    exact flt (4, tkN T n q) _ _ (by rfl) (by exact PS_8 hS3) (by rw [if_neg (fun w => z0 w.2.1), caF_4 x1 z0] at hG; exact (Option.some.inj hG).symm)
  have z0 : (fd E (tkS T n (tkN T n q))).1 = 0 := (n_le0 (by omega)).mp z
  have t30 : r3.2.1 30 = nI c := (hV3.1 30 (by decide)).trans h30
  refine Tm_suc (fun k => by rw [x_declareCallable]) ?_
  rw [t30]
  by_cases c40 : c = 40
  · refine Tm_ite (fun _ => ?_) (fun z => absurd (by rw [c40]; rfl) z)
    refine Tm_ob (s_fault _ r3.2) (fun r4 hr4 => ?_)
    have hr4 : r4 = (0, mFlt r3.2 8 (r3.2.1 8)) := hr4
    subst hr4
    exact flt (8, tkN T n q) _ _ (by rfl) (by exact PS_8 hS3) (by rw [if_neg (fun w => w.2.2 c40), caF_8 x1 z0] at hG; exact (Option.some.inj hG).symm)
  refine Tm_ite (fun z => absurd ((n_eq (q := 40) (by omega) (by decide)).mp z) c40) (fun _ => ?_)
  rw [if_pos ⟨x1, z0, c40⟩] at hG
  refine Tm_suc (fun k => by rw [x_declareCallable]) ?_
  refine Tm_ite (fun _ => ?_) (fun z => absurd (PS_ok hS3) z)
  -- the name is told
  have l6 : ∀ N : Nat → Int32, N 1 = L 1 → N 2 = nI c → N 100 = nI (if pr = true then 3 else 2) → Tm (fun k => x_declareCallable k 6 N r3.2) (PoP T n σ x) := by
    intro N n1 n2 n100
    obtain ⟨k0, hk0, hk18⟩ := hA c (by omega)
    have hS3s : PS T n (sP E c k0) 0 (tkN T n q) v b r3.2 := PS_sp hS3 hk
    refine Tm_suc (fun k => by rw [x_declareCallable]) ?_
    have hkk : 1 ≤ (if pr = true then 3 else 2) ∧ (if pr = true then 3 else 2) ≤ 3 := by
      by_cases e : pr = true
      · rw [if_pos e]; decide
      · rw [if_neg e]; decide
    refine Tm_ob (p_tellEntity (w := 0) (k := if pr = true then 3 else 2) (m := c) hS3s (by show E.1.length < 200; omega) (by omega) hkk (by omega) (fun _ => ⟨by omega, ?_, ?_⟩) (by rw [upd_other (by decide), upd_same]; exact n100) (by rw [upd_same]; exact n2)) (fun r4 hr4 => ?_)
    · show r3.2.2.2 18 c = nI (updN E.2.2.2.2.2.2 c k0 c)
      rw [updN_s, hV3.2.2.1 18 (by decide)]; exact hk18
    · show updN E.2.2.2.2.2.2 c k0 c ≤ 8
      rw [updN_s]; exact hk0
    have hV4 := FrV_tr hV3 hr4.1
    refine Tm_ob (v_take (w := 0) hr4.2 _) (fun r5 hr5 => ?_)
    have hV5 := FrV_tr hV4 hr5.1
    have l7 : ∀ τ : MS, ¬ τ.1 10 = 0 → ∀ (y0 : Nat × Nat) m, Bb y0 m τ → FrV 0 σ τ → x = Sum.inl y0 → Tm (fun k => x_declareCallable k 7 N τ) (PoP T n σ x) := fun τ hb y0 m hB hV hx => by
      refine Tm_suc (fun k => by rw [x_declareCallable]) ?_
      exact Tm_ite (fun z => absurd z hb) (fun _ => Tm_some (bad _ _ hx hB hV _))
    rcases pT_any hG with ⟨z, hx⟩ | ⟨z, hG⟩
    · rcases hr5.2 with ⟨_, hB⟩ | ⟨y, _⟩
      · exact Tm_ite (fun z => absurd z hB.1) (fun _ => l7 _ hB.1 _ _ hB hV5 hx)
      · exact absurd z y
    rcases hr5.2 with ⟨y, _⟩ | ⟨_, hS5⟩
    · exact absurd y z
    refine Tm_ite (fun _ => ?_) (fun z => absurd (PS_ok hS5) z)
    refine Tm_ob (p_sign hS5 (s := 6) (by decide) (by decide) upd_same) (fun r6 hr6 => ?_)
    obtain ⟨a6, τ⟩ := r6
    obtain ⟨rfl, hr6⟩ := hr6
    refine Tm_ite (fun y => ?_) (fun y => ?_)
    · rw [if_neg (fun w => hr6.mpr w y)] at hG
      refine Tm_ob (s_cannot _ r5.2) (fun r7 hr7 => ?_)
      subst hr7
      have hB := flt_b (M := 0) (P := 0) (w := 0) (yf := (2, tkN T n (tkN T n q))) (PS_ok hS5) (PS_m hS5) (x := 2) (y := r5.2.1 8) (by rfl) (by exact PS_8 hS5)
      exact l7 _ hB.1.1 _ _ hB.1 (FrV_tr hV5 (FrV_flt _ _)) (Option.some.inj hG).symm
    rw [if_pos (hr6.mp y)] at hG
    refine Tm_suc (fun k => by rw [x_declareCallable]) ?_
    refine Tm_ite (fun _ => ?_) (fun z => absurd (PS_ok hS5) z)
    have n1' : N 1 = nI (if pr = true then 1 else 0) := n1.trans hL
    have n10 : N 1 = 0 ↔ pr = false := by
      rw [n1']
      cases pr with
      | true => exact ⟨fun z => absurd z (by decide), fun z => absurd z (by decide)⟩
      | false => exact ⟨fun _ => rfl, fun _ => rfl⟩
    refine ca_8 (pr := pr) (by omega) hpc ((hV5.1 30 (by decide)).trans h30) ((hV5.1 31 (by decide)).trans h31) n1' n2 (fun N' m1 m2 => ?_)
    have hN2 := tkN_b T n _ hN1.2.1
    have hS6 := PS_un (c := c) (x := nI (if pr = true then pc + 1 else pc)) hS5 (by omega) n10 hE2
    have hup : updN (updN E.2.2.2.2.2.2 c k0) c 0 = updN E.2.2.2.2.2.2 c 0 := by
      funext i
      by_cases e : i = c
      · rw [e, updN_s, updN_s]
      · rw [updN_o e, updN_o e, updN_o e]
    have hS6 : PS T n (eC1 T n pr E c (tkN T n q) b) 0 (tkN T n (tkN T n q)) 0 (bKeep b T (tkN T n q) (tkE T n (tkN T n q) - tkN T n q)) (mUn r5.2 c (nI (if pr = true then pc + 1 else pc)) (N 1)) := by
      have h6 : PS T n (E.1 ++ [(tkS T n (tkN T n q), b.2.1, (if pr = true then 3 else 2), c)], [], [], c + 1, pr, pr, updN (updN E.2.2.2.2.2.2 c k0) c 0) 0 (tkN T n (tkN T n q)) 0 (bKeep b T (tkN T n q) (tkE T n (tkN T n q) - tkN T n q)) (mUn r5.2 c (nI (if pr = true then pc + 1 else pc)) (N 1)) := hS6
      rw [hup] at h6
      exact h6
    have r19 : (mUn r5.2 c (nI (if pr = true then pc + 1 else pc)) (N 1)).2.2 19 = σ.2.2 19 := (mUn_o (by decide)).trans (hV5.2.2.1 19 (by decide))
    refine Tm_mono (ca_18 (E0 := E) hG hS6 rfl rfl updN_s (fun y hy hk3 i hi => ?_) (fun y hy hk3 => ?_) hk (fun i hi => updN_o hi) ?_ ?_ hZ.2.2.2.1 (fun i => ?_) (by omega) ?_ ?_ (by rw [m1]; exact n10) (m2.trans n2) rfl ?_ hpc ?_ hv (fun i hi => ?_) ?_ (fun y hy hny => ?_) (fun i hi => ?_) ?_ ?_) (fun r hr => ?_)
    · rw [r19]; exact hZ.1 y hy hk3 i hi
    · rcases List.mem_append.mp (show y ∈ E.1 ++ [(tkS T n (tkN T n q), b.2.1, (if pr = true then 3 else 2), c)] from hy) with hy | hy
      · exact Or.inl hy
      · rw [List.mem_singleton.mp hy]; exact Or.inr rfl
    · exact (mUn_s (by decide)).trans ((hV5.1 45 (by decide)).trans hZ.2.1)
    · exact (mUn_s (by decide)).trans ((hV5.1 44 (by decide)).trans hZ.2.2.1)
    · rw [mUn_o (by decide), mUn_o (by decide), hV5.2.2.1 10 (by decide), hV5.2.2.1 11 (by decide)]; exact hZ.2.2.2.2 i
    · show b.1 + (n + 1 - tkN T n (tkN T n q)) + 1067 ≤ 70000
      omega
    · show b.2.1 + (tkE T n (tkN T n q) - tkN T n q) + (n - tkN T n (tkN T n q)) ≤ 70000
      omega
    · show (mUn r5.2 c (nI (if pr = true then pc + 1 else pc)) (N 1)).1 31 = _
      rfl
    · rw [mUn_21, upd_other (by omega)]
      have := hS5.2.2.2.1.2.2.1
      have w0 : (glA (sP E c k0) (tkS T n (tkN T n q), b.2.1, (if pr = true then 3 else 2), c)).2.2.2.1 = 0 := hE3
      rw [w0] at this; exact this
    · rw [mUn_o (by decide)]
      have := hS5.2.2.2.1.2.2.2.2 i hi
      have w0 : (glA (sP E c k0) (tkS T n (tkN T n q), b.2.1, (if pr = true then 3 else 2), c)).2.2.2.1 = 0 := hE3
      rw [w0, Nat.mul_zero, Nat.zero_add] at this; exact this
    · show (E.1 ++ [(tkS T n (tkN T n q), b.2.1, (if pr = true then 3 else 2), c)]).length = v + (c + 1)
      rw [List.length_append]; show E.1.length + 1 = _; omega
    · rcases List.mem_append.mp (show y ∈ E.1 ++ [(tkS T n (tkN T n q), b.2.1, (if pr = true then 3 else 2), c)] from hy) with hy | hy
      · have := hk y hy hny; omega
      · rw [List.mem_singleton.mp hy]; show c < c + 1; omega
    · refine ⟨by rw [mUn_o (by decide), hV5.2.2.1 17 (by decide)]; exact (h17 i hi).1, UnO_fr (h17 i hi).2.1 ?_ (fun s hs => ?_) rfl (fun _ _ => rfl), MoO_fr (h17 i hi).2.2 (fun j _ => by rw [r19]) rfl rfl⟩
      · rw [mUn_21, upd_other (by omega)]; exact hV5.2.2.2.1 _ (by omega)
      · rw [mUn_o (by decide)]; exact hV5.2.2.2.2 _ (by omega)
    · exact FrP_un.2.2.2 ((FrP_V hV5).2.2.2 hA)
    · refine ⟨_, List.mem_append_right _ (List.mem_singleton.mpr rfl), ?_, rfl⟩
      show ¬ (if pr = true then 3 else 2) = 1
      by_cases e : pr = true
      · rw [if_pos e]; decide
      · rw [if_neg e]; decide
    · have hFF : FrP σ (mUn r5.2 c (nI (if pr = true then pc + 1 else pc)) (N 1)) := FrP_tr (FrP_V hV5) FrP_un
      cases x with
      | inl yf => exact ⟨hr.1, FrP_tr hFF hr.2⟩
      | inr g => exact ⟨hr.1, FrP_tr hFF hr.2⟩
  refine Tm_suc (fun k => by rw [x_declareCallable]) ?_
  rw [t30]
  refine Tm_ite (fun y => ?_) (fun y => ?_)
  · have e : ¬ pr = true := fun e => by rw [hL, if_pos e] at y; exact absurd y (by decide)
    refine Tm_suc (fun k => by rw [x_declareCallable]) ?_
    refine l6 _ ?_ ?_ ?_
    · rw [upd_other (by decide), upd_other (by decide), upd_other (by decide)]
    · rw [upd_other (by decide), upd_other (by decide), upd_same]
    · rw [upd_same, if_neg e]; rfl
  · have e : pr = true := by
      by_cases e : pr = true
      · exact e
      · rw [hL, if_neg e] at y; exact absurd rfl y
    refine l6 _ ?_ ?_ ?_
    · rw [upd_other (by decide), upd_other (by decide), upd_other (by decide)]
    · rw [upd_other (by decide), upd_other (by decide), upd_same]
    · rw [upd_same, if_pos e]; rfl
end CAC
end JnS90
section JnS91
variable {yf : Nat × Nat}
/-! A program of the reference. -/
/-- declarations -/
def GDs (T : Nat → Int32) (n : Nat) : Nat → PRG → Option (Fl PRG)
  | 0, _ => none
  | f + 1, g => if tkK T n g.1 = 32 then pb (pT T n g.1 (fun q1 => GVr T n (fu n) g.2.1 q1 g.2.2.2.2.2.1 g.2.2.2.2.2.2.1)) (fun r => GDs T n f (r.1, r.2.1, g.2.2.1, g.2.2.2.1, g.2.2.2.2.1, r.2.2.1, r.2.2.2, g.2.2.2.2.2.2.2))
    else if tkK T n g.1 = 34 ∨ tkK T n g.1 = 33 then pb (gCal T n (decide (tkK T n g.1 = 33)) g.2.1 g.2.2.1 g.2.2.2.1 g.2.2.2.2.1 g.2.2.2.2.2.1 g.2.2.2.2.2.2.1 g.2.2.2.2.2.2.2.1 g.2.2.2.2.2.2.2.2 g.1) (fun h => GDs T n f h)
    else some (Sum.inr g)
/-- a program: its declarations, its statements -/
def gPrg (T : Nat → Int32) (n : Nat) (g0 : PRG) : Option (Fl (PRG × ST)) :=
  if tkK T n (sk T n 0) = 0 then some (Sum.inl (1, sk T n 0)) else pb (GDs T n (n + 1) g0) (fun g => pb (GS T n g.2.2.1 (fu n) 0 g.2.1 0 0 g.1 g.2.2.2.2.2.1 (-1) 0 0 g.2.2.2.2.2.2.1 g.2.2.2.2.2.2.2.1) (fun t => if tkK T n t.1 = 25 then some (Sum.inr (g, t)) else some (Sum.inl (2, t.1))))
section PRGS
variable {T : Nat → Int32} {n : Nat}
/-- what is laid so far is no more than what is read -/
def PL (n : Nat) (g : PRG) : Prop := g.1 ≤ n ∧ 1 ≤ g.2.2.2.2.2.2.1.1 ∧ g.2.2.2.2.2.2.1.1 ≤ 1 + g.1 ∧ g.2.2.2.2.2.2.1.2.1 ≤ g.1 ∧ g.2.2.2.2.2.1 ≤ 60 ∧ g.2.2.2.2.2.2.2.1.1 ≤ 400 ∧ g.2.1.2.2.2.1 = 0
theorem gBod_mo {pr : Bool} {MD : Nat → Nat → Nat} {E : En} {q v : Nat} {b : BT} {s : SB} {z : BD} (hq : q ≤ n) (hv : v ≤ 60) (hb : 1 ≤ b.1) (hs : s.1 ≤ 400) (hw : ¬ E.2.2.2.1 = 0) (h : gBod T n pr MD E q v b s = some (Sum.inr z)) : q < z.1 ∧ z.1 ≤ n ∧ b.1 ≤ z.2.2.1.1 ∧ z.2.2.1.1 + q ≤ b.1 + z.1 ∧ z.2.2.1.2.1 + q ≤ b.2.1 + z.1 ∧ z.2.2.2.1 ≤ 400 := by
  have hN := tkN_b T n q hq
  unfold gBod at h
  by_cases e : pr = true
  · rw [if_pos e] at h
    rcases pW_any h with ⟨_, y⟩ | ⟨y1, h⟩
    · cases y
    rcases pb_any h with ⟨yf, _, y⟩ | ⟨r, hr, h⟩
    · cases y
    rcases pb_any h with ⟨yf, _, y⟩ | ⟨t, ht, h⟩
    · cases y
    rcases pW_any h with ⟨_, y⟩ | ⟨_, h⟩
    · cases y
    rcases pW_any h with ⟨_, y⟩ | ⟨_, h⟩
    · cases y
    obtain rfl := Sum.inr.inj (Option.some.inj h)
    have hN1 := hN.2.2.2 (by rw [y1.1]; decide)
    obtain ⟨m1, m2, m3, m4, m5, m6, m7, _⟩ := gvs_mo _ _ _ _ _ _ hN.2.1 hv hw hr
    obtain ⟨⟨k1, k2, k3, k4, k5, k6, k7, k8, k9, k10⟩, _⟩ := gs_mo _ 0 _ _ _ _ _ _ _ _ _ _ _ r.2.2.2.1 (by decide) m2 m4 hs ht (by rw [m5]; exact hb) (Nat.le_refl _) (fun _ z => absurd rfl z) (fun z => absurd z (by decide))
    have hN2 := tkN_b T n t.1 k2
    have hN3 := tkN_b T n _ hN2.2.1
    refine ⟨?_, hN3.2.1, ?_, ?_, ?_, k10⟩
    · show q < tkN T n (tkN T n t.1); omega
    · show b.1 ≤ t.2.2.2.2.1.1; omega
    · show t.2.2.2.2.1.1 + q ≤ b.1 + tkN T n (tkN T n t.1); omega
    · show t.2.2.2.2.1.2.1 + q ≤ b.2.1 + tkN T n (tkN T n t.1); omega
  · rw [if_neg e] at h
    rcases pW_any h with ⟨_, y⟩ | ⟨y1, h⟩
    · cases y
    rcases pb_any h with ⟨yf, _, y⟩ | ⟨t, ht, h⟩
    · cases y
    rcases pW_any h with ⟨_, y⟩ | ⟨_, h⟩
    · cases y
    obtain rfl := Sum.inr.inj (Option.some.inj h)
    have hN1 := hN.2.2.2 (by rw [y1.1]; decide)
    obtain ⟨⟨k1, k2, k3, k4, k5, k6, k7, k8⟩, _⟩ := mo_of (M := b.1) hN.2.1 hv ht (Nat.le_refl _) hb trivial (fun h => h) (fun h => h)
    have hN2 := tkN_b T n t.1 k2
    refine ⟨?_, hN2.2.1, ?_, ?_, ?_, hs⟩
    · show q < tkN T n t.1; omega
    · show b.1 ≤ t.2.2.2.2.1.1; omega
    · show t.2.2.2.2.1.1 + q ≤ b.1 + tkN T n t.1; omega
    · show t.2.2.2.2.1.2.1 + q ≤ b.2.1 + tkN T n t.1; omega
theorem gCal_mo {pr : Bool} {E : En} {MD : Nat → Nat → Nat} {c pc v q : Nat} {b : BT} {s : SB} {F : Nat → Int32} {g : PRG} (hq : q ≤ n) (hv : v ≤ 60) (hb : 1 ≤ b.1) (hs : s.1 ≤ 400) (hl : b.1 ≤ 1 + q ∧ b.2.1 ≤ q) (h : gCal T n pr E MD c pc v b s F q = some (Sum.inr g)) : q < g.1 ∧ PL n g := by
  have hN := tkN_b T n q hq
  unfold gCal at h
  rcases pT_any h with ⟨_, y⟩ | ⟨_, h⟩
  · cases y
  by_cases c1 : nmC T n E c (tkN T n q)
  · rw [if_pos c1] at h
    have hN1 := tkN_b T n (tkN T n q) hN.2.1
    have hE1 := tkE_b T n (tkN T n q) hN.2.1
    rcases pT_any h with ⟨_, y⟩ | ⟨_, h⟩
    · cases y
    by_cases c2 : tkK T n (tkN T n (tkN T n q)) = 6
    · rw [if_pos c2] at h
      unfold gCb at h
      have hN2 := tkN_b T n _ hN1.2.1
      rcases pT_any h with ⟨_, y⟩ | ⟨_, h⟩
      · cases y
      rcases pb_any h with ⟨yf, _, y⟩ | ⟨a, ha, h⟩
      · cases y
      obtain ⟨⟨a1, a2, a3, a4, a5⟩, a6, a7, a8, a9, a10, a11, a12, a13⟩ := gpm_mo _ _ _ _ _ _ _ _ ha hN2.2.1 (by decide) updN_s
      have a11 : a.2.2.2.2.2.2.1 + tkN T n (tkN T n (tkN T n q)) ≤ b.2.1 + (tkE T n (tkN T n q) - tkN T n q) + a.1 := a11
      have a10 : a.2.2.2.2.2.1 = b.1 := a10
      have hN3 := tkN_b T n _ a7
      rcases pT_any h with ⟨_, y⟩ | ⟨_, h⟩
      · cases y
      rcases pb_any h with ⟨yf, _, y⟩ | ⟨z, hz, h⟩
      · cases y
      obtain rfl := Sum.inr.inj (Option.some.inj h)
      obtain ⟨k1, k2, k3, k4, k5, k6⟩ := gBod_mo hN3.2.1 a9 (by rw [a10]; exact hb) hs (by rw [a3]; show ¬ c + 1 = 0; omega) hz
      refine ⟨?_, ?_, ?_, ?_, ?_, hv, k6, rfl⟩
      · show q < z.1; omega
      · exact k2
      · show 1 ≤ z.2.2.1.1; omega
      · show z.2.2.1.1 ≤ 1 + z.1; omega
      · show z.2.2.1.2.1 ≤ z.1; omega
    · rw [if_neg c2] at h; cases h
  · rw [if_neg c1] at h; cases h
theorem gds_mo : ∀ (f : Nat) (g h : PRG), GDs T n f g = some (Sum.inr h) → PL n g → PL n h
  | 0, g, h, hG, _ => by cases hG
  | f + 1, g, h, hG, hP => by
    have ih := gds_mo f
    obtain ⟨p1, p2, p3, p4, p5, p6, p7⟩ := hP
    have hN := tkN_b T n g.1 p1
    rw [GDs] at hG
    by_cases c1 : tkK T n g.1 = 32
    · rw [if_pos c1] at hG
      rcases pb_any hG with ⟨yf, _, y⟩ | ⟨r, hr, hG⟩
      · cases y
      rcases pT_any hr with ⟨_, y⟩ | ⟨_, hr⟩
      · cases y
      obtain ⟨m1, m2, m3, m4, m5, m6, m7, m8, _⟩ := gvr_mo _ _ _ _ _ _ hN.2.1 p5 hr
      refine ih _ _ hG ⟨m2, ?_, ?_, ?_, m4, p6, ?_⟩
      · show 1 ≤ r.2.2.2.1; omega
      · show r.2.2.2.1 ≤ 1 + r.1; omega
      · show r.2.2.2.2.1 ≤ r.1; omega
      · show r.2.1.2.2.2.1 = 0; rw [m8]; exact p7
    · rw [if_neg c1] at hG
      by_cases c2 : tkK T n g.1 = 34 ∨ tkK T n g.1 = 33
      · rw [if_pos c2] at hG
        rcases pb_any hG with ⟨yf, _, y⟩ | ⟨r, hr, hG⟩
        · cases y
        exact ih _ _ hG (gCal_mo p1 p5 p2 p6 ⟨p3, p4⟩ hr).2
      · rw [if_neg c2] at hG
        obtain rfl := Sum.inr.inj (Option.some.inj hG)
        exact ⟨p1, p2, p3, p4, p5, p6, p7⟩
theorem gds_tot : ∀ (f : Nat) (g : PRG), PL n g → n - g.1 + 1 ≤ f → ∃ y, GDs T n f g = some y
  | 0, g, _, hf => absurd hf (by omega)
  | f + 1, g, hP, hf => by
    have ih := gds_tot f
    obtain ⟨p1, p2, p3, p4, p5, p6, p7⟩ := hP
    have hN := tkN_b T n g.1 p1
    rw [GDs]
    by_cases c1 : tkK T n g.1 = 32
    · rw [if_pos c1]
      refine pb_t (pT_t (gvr_tot _ _ _ _ _ hN.2.1 (by unfold fu; omega))) (fun r hr => ?_)
      rcases pT_any hr with ⟨_, y⟩ | ⟨_, hr⟩
      · cases y
      obtain ⟨m1, m2, m3, m4, m5, m6, m7, m8, _⟩ := gvr_mo _ _ _ _ _ _ hN.2.1 p5 hr
      refine ih _ ⟨m2, ?_, ?_, ?_, m4, p6, ?_⟩ ?_
      · show 1 ≤ r.2.2.2.1; omega
      · show r.2.2.2.1 ≤ 1 + r.1; omega
      · show r.2.2.2.2.1 ≤ r.1; omega
      · show r.2.1.2.2.2.1 = 0; rw [m8]; exact p7
      · show n - r.1 + 1 ≤ f; omega
    · rw [if_neg c1]
      by_cases c2 : tkK T n g.1 = 34 ∨ tkK T n g.1 = 33
      · rw [if_pos c2]
        refine pb_t (gCal_tot p1 p5 p2 p6) (fun r hr => ?_)
        obtain ⟨k1, k2⟩ := gCal_mo p1 p5 p2 p6 ⟨p3, p4⟩ hr
        exact ih _ k2 (by omega)
      · rw [if_neg c2]; exact ⟨_, rfl⟩
end PRGS
end JnS91
section JnS92
variable {yf : Nat × Nat}
/-! The reference reads a program. -/
def g0 (T : Nat → Int32) (n : Nat) (u p : Nat → Int32) : PRG := (sk T n 0, ([], [], [], 0, true, true, fun _ => 0), fun _ _ => 0, 0, 0, 0, (1, 0, fun _ _ => 0, fun _ => 0, fun _ => 0), (0, u, p), fun _ => 0)
theorem g0_PL (T : Nat → Int32) (n : Nat) (u p : Nat → Int32) : PL n (g0 T n u p) := by
  have h : sk T n 0 ≤ n := skE_le T n (n + 1) 0 (Nat.zero_le _)
  refine ⟨h, Nat.le_refl _, ?_, ?_, Nat.zero_le _, Nat.zero_le _, rfl⟩
  · show 1 ≤ 1 + sk T n 0; omega
  · show 0 ≤ sk T n 0; omega
theorem gPrg_tot (T : Nat → Int32) (n : Nat) (u p : Nat → Int32) : ∃ x, gPrg T n (g0 T n u p) = some x := by
  unfold gPrg
  by_cases c : tkK T n (sk T n 0) = 0
  · rw [if_pos c]; exact ⟨_, rfl⟩
  · rw [if_neg c]
    refine pb_t (gds_tot _ _ (g0_PL T n u p) (by have : (g0 T n u p).1 = sk T n 0 := rfl; omega)) (fun g hg => ?_)
    obtain ⟨p1, p2, p3, p4, p5, p6, p7⟩ := gds_mo _ _ _ hg (g0_PL T n u p)
    refine pb_t (gs_tot _ 0 _ _ _ _ _ _ _ _ _ _ (by decide) p1 p5 p6 p2 (fun z => absurd z (by decide)) (by show 40 * (n - g.1) + 30 + 1 ≤ fu n; unfold fu; omega)) (fun t _ => ?_)
    by_cases e : tkK T n t.1 = 25
    · rw [if_pos e]; exact ⟨_, rfl⟩
    · rw [if_neg e]; exact ⟨_, rfl⟩
/-- a program is read -/
def PR (T : Nat → Int32) (n : Nat) (g : PRG) (t : ST) (σ : MS) : Prop :=
  PZ T n g.2.2.1 g.2.1 0 0 t.1 t.2.1 t.2.2.2.2.1 t.2.2.2.2.2 σ ∧ σ.1 110 = hd t.2.2.2.1 ∧ (σ.1 30 = nI g.2.2.2.1 ∧ g.2.2.2.1 ≤ 40 ∧ σ.1 31 = nI g.2.2.2.2.1 ∧ g.2.2.2.2.1 ≤ g.2.2.2.1) ∧ (g.2.1.2.1 = [] ∧ g.2.1.2.2.1 = [] ∧ g.2.1.2.2.2.1 = 0) ∧ (∀ x ∈ g.2.1.1, ¬ x.2.2.1 = 1 → x.2.2.2 < g.2.2.2.1) ∧ (∀ i, i < g.2.2.2.1 → σ.2.2 17 i = g.2.2.2.2.2.2.2.2 i ∧ UnO σ g.2.2.2.2.2.2.2.2 i ∧ MoO σ g.2.1 g.2.2.1 i) ∧ PA σ
def PoR (T : Nat → Int32) (n : Nat) (σ0 : MS) : Fl (PRG × ST) → Int32 × MS → Prop
  | Sum.inl yf, r => (∃ m, Bb yf m r.2) ∧ FrP σ0 r.2
  | Sum.inr z, r => PR T n z.1 z.2 r.2 ∧ FrP σ0 r.2
section RPR
variable {T : Nat → Int32} {n : Nat}
theorem rp_b14 {σ ρ : MS} {N : Nat → Int32} {m : Nat} (hB : Bb yf m ρ) (hF : FrP σ ρ) : Tm (fun k => x_readProgram k 14 N ρ) (PoR T n σ (Sum.inl yf)) := by
  refine Tm_suc (fun k => by rw [x_readProgram]) ?_
  refine Tm_ob (show Tm (fun k => x_block k 0 (upd (fun _ => 0) 1 (-1)) ρ) (fun r => r.2 = ρ) from b_block hB.1) (fun r hr => ?_)
  rw [hr]
  have hB2 : Bb yf m (upd ρ.1 110 r.1, ρ.2.1, ρ.2.2) := Bb_f hB (fun j hj => upd_other (by omega))
  refine Tm_suc (fun k => by rw [x_readProgram]) ?_
  refine Tm_ite (fun z => absurd z hB2.1) (fun _ => ?_)
  refine Tm_suc (fun k => by rw [x_readProgram]) ?_
  exact Tm_some ⟨⟨_, hB2⟩, FrP_tr hF (FrP_s (fun j hj => upd_other (by omega)))⟩
theorem rp_b11 {σ ρ : MS} {N : Nat → Int32} {m : Nat} (hB : Bb yf m ρ) (hF : FrP σ ρ) : Tm (fun k => x_readProgram k 11 N ρ) (PoR T n σ (Sum.inl yf)) := by
  refine Tm_suc (fun k => by rw [x_readProgram]) ?_
  exact Tm_ite (fun z => absurd z hB.1) (fun _ => rp_b14 hB hF)
/-- the statements -/
theorem rp_14 {σ ρ : MS} {N : Nat → Int32} {g : PRG} {x : Fl (PRG × ST)} (hG : pb (GS T n g.2.2.1 (fu n) 0 g.2.1 0 0 g.1 g.2.2.2.2.2.1 (-1) 0 0 g.2.2.2.2.2.2.1 g.2.2.2.2.2.2.2.1) (fun t => if tkK T n t.1 = 25 then some (Sum.inr (g, t)) else some (Sum.inl (2, t.1))) = some x) (hD : PD T n g ρ) (hP : PL n g) (hF : FrP σ ρ) : Tm (fun k => x_readProgram k 14 N ρ) (PoR T n σ x) := by
  obtain ⟨h, hZ, h30, hE, hl, hk, h17, hA⟩ := hD
  obtain ⟨p1, p2, p3, p4, p5, p6, p7⟩ := hP
  have hq := PS_q h
  have HB : SB0 T n g.2.2.1 (fu n) := sb_of (all_Z (fu n) (fu n) (Nat.le_refl _)).1
  refine Tm_suc (fun k => by rw [x_readProgram]) ?_
  rcases pb_any hG with ⟨yf, hg, rfl⟩ | ⟨t, hg, hG⟩
  · refine Tm_ob (HB _ _ _ _ _ _ _ _ _ hg ρ _ 100 1 0 (ZZ_PZ hZ h) (by decide) p2 (Nat.zero_le _) (by omega) (by omega) (by decide) upd_same) (fun r hr => ?_)
    obtain ⟨⟨m, hB, _⟩, hF3⟩ := hr
    have hB2 : Bb yf m (upd r.2.1 110 r.1, r.2.2.1, r.2.2.2) := Bb_f hB (fun j hj => upd_other (by omega))
    refine Tm_suc (fun k => by rw [x_readProgram]) ?_
    refine Tm_ite (fun z => absurd z hB2.1) (fun _ => ?_)
    refine Tm_suc (fun k => by rw [x_readProgram]) ?_
    exact Tm_some ⟨⟨_, hB2⟩, FrP_tr hF (FrP_tr (FrP_Z hF3) (FrP_s (fun j hj => upd_other (by omega))))⟩
  · refine Tm_ob (HB _ _ _ _ _ _ _ _ _ hg ρ _ 100 1 0 (ZZ_PZ hZ h) (by decide) p2 (Nat.zero_le _) (by omega) (by omega) (by decide) upd_same) (fun r hr => ?_)
    obtain ⟨hZ3, he3, hF3⟩ := hr
    have hFr : FrP σ (upd r.2.1 110 r.1, r.2.2.1, r.2.2.2) := FrP_tr hF (FrP_tr (FrP_Z hF3) (FrP_s (fun j hj => upd_other (by omega))))
    have hS4 : PS T n g.2.1 0 t.1 t.2.1 t.2.2.2.2.1 (upd r.2.1 110 r.1, r.2.2.1, r.2.2.2) := PS_sc hZ3.1 (fun j hj => upd_other (by omega))
    have c := cur_kind (PS_cur hS4)
    refine Tm_suc (fun k => by rw [x_readProgram]) ?_
    refine Tm_ite (fun _ => ?_) (fun z => absurd (PS_ok hS4) z)
    refine Tm_ite (fun z => ?_) (fun z => ?_)
    · rw [if_pos (c.1.mp z)] at hG
      obtain rfl := Option.some.inj hG
      refine Tm_suc (fun k => by rw [x_readProgram]) ?_
      have u : ∀ j, j ≠ 110 → ((upd r.2.1 110 r.1, r.2.2.1, r.2.2.2) : MS).1 j = r.2.1 j := fun j hj => upd_other hj
      refine Tm_some ⟨⟨⟨hS4, ?_, ?_, ?_, ?_⟩, ?_, ⟨?_, ?_, ?_, ?_⟩, hE, hk, ?_, ?_⟩, hFr⟩
      · exact hZ3.2.1
      · rw [u 45 (by decide)]; exact hZ3.2.2.1
      · rw [u 44 (by decide)]; exact hZ3.2.2.2.1
      · exact hZ3.2.2.2.2
      · show upd r.2.1 110 r.1 110 = _
        rw [upd_same]; exact he3
      · rw [u 30 (by decide), hF3.1 30 (by decide)]; exact h30.1
      · exact h30.2.1
      · rw [u 31 (by decide), hF3.1 31 (by decide)]; exact h30.2.2.1
      · exact h30.2.2.2
      · intro i hi
        have w0 : g.2.1.2.2.2.1 = 0 := p7
        rw [w0] at hF3
        refine ⟨?_, UnO_fr (h17 i hi).2.1 ?_ (fun s hs => ?_) rfl (fun _ _ => rfl), MoO_fr (h17 i hi).2.2 (fun j _ => by show r.2.2.2 19 _ = _; rw [hF3.2.2.1 19 (by decide)]) rfl rfl⟩
        · show r.2.2.2 17 i = _
          rw [hF3.2.2.1 17 (by decide)]; exact (h17 i hi).1
        · exact hF3.2.2.2.2.2.1 _ (by omega)
        · exact hF3.2.2.2.2.2.2 _ (by omega)
      · exact (FrP_Z hF3).2.2.2 hA
    · rw [if_neg (fun w => z (c.1.mpr w))] at hG
      obtain rfl := Option.some.inj hG
      refine Tm_ob (s_cannot _ _) (fun r4 hr4 => ?_)
      subst hr4
      have hB := flt_b (M := 0) (P := 0) (w := 0) (yf := (2, t.1)) (PS_ok hS4) (PS_m hS4) (x := 2) (y := upd r.2.1 110 r.1 8) (by rfl) (by exact PS_8 hS4)
      refine Tm_suc (fun k => by rw [x_readProgram]) ?_
      exact Tm_some ⟨⟨_, hB.1⟩, FrP_tr hFr (FrP_V (w := 0) (FrV_flt _ _))⟩
abbrev gRest (T : Nat → Int32) (n : Nat) (g : PRG) : Option (Fl (PRG × ST)) := pb (GS T n g.2.2.1 (fu n) 0 g.2.1 0 0 g.1 g.2.2.2.2.2.1 (-1) 0 0 g.2.2.2.2.2.2.1 g.2.2.2.2.2.2.2.1) (fun t => if tkK T n t.1 = 25 then some (Sum.inr (g, t)) else some (Sum.inl (2, t.1)))
theorem rp_11 {σ : MS} {x : Fl (PRG × ST)} : ∀ (f : Nat) (g : PRG) (y : Fl PRG), GDs T n f g = some y → (∀ z, y = Sum.inl z → x = Sum.inl z) → (∀ g', y = Sum.inr g' → gRest T n g' = some x) → ∀ (ρ : MS) (N : Nat → Int32), PD T n g ρ → PL n g → FrP σ ρ → Tm (fun k => x_readProgram k 11 N ρ) (PoR T n σ x)
  | 0, g, y, hG, _, _, _, _, _, _, _ => by cases hG
  | f + 1, g, y, hG, K1, K2, ρ, N, hD, hP, hF => by
    have ih := rp_11 (σ := σ) (x := x) f
    have hD0 := hD
    have hP0 := hP
    obtain ⟨h, hZ, h30, hE, hl, hk, h17, hA⟩ := hD
    obtain ⟨p1, p2, p3, p4, p5, p6, p7⟩ := hP
    have hq := PS_q h
    have hN := tkN_b T n g.1 p1
    rw [GDs] at hG
    -- var
    have l32 : tkK T n g.1 = 32 → Tm (fun k => x_readProgram k 12 N ρ) (PoR T n σ x) := fun c1 => by
      rw [if_pos c1] at hG
      refine Tm_suc (fun k => by rw [x_readProgram]) ?_
      refine Tm_ob (p_word h (s := 0) (by decide) upd_same) (fun r hr => ?_)
      obtain ⟨a, τ⟩ := r
      obtain ⟨rfl, hr⟩ := hr
      refine Tm_ite (fun y => absurd y (hr.mpr c1)) (fun _ => ?_)
      rcases pb_any hG with ⟨yf, hv, hy⟩ | ⟨r, hv, hg2⟩
      · refine Tm_ob (p_declareVar hv h (by omega) (fun _ => by rw [hl]; omega)) (fun r2 hr2 => ?_)
        obtain ⟨⟨m, hB⟩, hV⟩ := hr2
        rw [K1 _ hy]
        exact rp_b11 hB (FrP_tr hF (FrP_V hV))
      · refine Tm_ob (p_declareVar hv h (by omega) (fun _ => by rw [hl]; omega)) (fun r2 hr2 => ?_)
        obtain ⟨hS2, hV⟩ := hr2
        rw [p7] at hV
        rcases pT_any hv with ⟨_, z⟩ | ⟨_, hr⟩
        · cases z
        obtain ⟨m1, m2, m3, m4, m5, m6, m7, m8, m9, m10, m11, m12⟩ := gvr_mo _ _ _ _ _ _ hN.2.1 p5 hr
        obtain ⟨k1, k2⟩ := m9 p7
        have u : ∀ j, ¬ ((5 ≤ j ∧ j ≤ 13) ∨ j = 24 ∨ j = 25 ∨ j = 38 ∨ (46 ≤ j ∧ j ≤ 48)) → r2.2.1 j = τ.1 j := hV.1
        refine ih _ _ hg2 K1 K2 _ N ⟨hS2, ?_, ⟨?_, h30.2.1, ?_, h30.2.2.2⟩, ?_, ?_, ?_, ?_, ?_⟩ ⟨m2, ?_, ?_, ?_, m4, p6, ?_⟩ (FrP_tr hF (FrP_V hV))
        · refine ⟨fun y hy hk3 i hi => ?_, (u 45 (by decide)).trans hZ.2.1, (u 44 (by decide)).trans hZ.2.2.1, hZ.2.2.2.1, fun i => ?_⟩
          · rw [hV.2.2.1 19 (by decide)]
            have hi : i < r.2.1.2.2.2.2.2.2 y.2.2.2 := hi
            rw [m8] at hi
            exact hZ.1 y (m11 y hy (by rw [hk3]; decide)) hk3 i hi
          · rw [hV.2.2.1 10 (by decide), hV.2.2.1 11 (by decide)]; exact hZ.2.2.2.2 i
        · exact (u 30 (by decide)).trans h30.1
        · exact (u 31 (by decide)).trans h30.2.2.1
        · show r.2.1.2.1 = [] ∧ r.2.1.2.2.1 = [] ∧ r.2.1.2.2.2.1 = 0
          rw [k2]; exact hE
        · show r.2.1.1.length = r.2.2.1 + g.2.2.2.1; omega
        · intro y hy hn; exact hk y (m11 y hy hn) hn
        · intro i hi
          refine ⟨by rw [hV.2.2.1 17 (by decide)]; exact (h17 i hi).1, UnO_fr (h17 i hi).2.1 ?_ (fun s hs => ?_) rfl (fun _ _ => rfl), MoO_fr (h17 i hi).2.2 (fun j _ => by rw [hV.2.2.1 19 (by decide)]) (by show r.2.1.2.2.2.2.2.2 i = _; rw [m8]) rfl⟩
          · exact hV.2.2.2.1 _ (by omega)
          · exact hV.2.2.2.2 _ (by omega)
        · exact (FrP_V hV).2.2.2 hA
        · show 1 ≤ r.2.2.2.1; omega
        · show r.2.2.2.1 ≤ 1 + r.1; omega
        · show r.2.2.2.2.1 ≤ r.1; omega
        · show r.2.1.2.2.2.1 = 0; rw [m8]; exact p7
    -- func, proc
    have l33 : tkK T n g.1 = 34 ∨ tkK T n g.1 = 33 → Tm (fun k => x_readProgram k 12 N ρ) (PoR T n σ x) := fun c1 => by
      rw [if_neg (by omega), if_pos c1] at hG
      refine Tm_suc (fun k => by rw [x_readProgram]) ?_
      refine Tm_ob (p_word h (s := 0) (by decide) upd_same) (fun r hr => ?_)
      obtain ⟨a, τ⟩ := r
      obtain ⟨rfl, hr⟩ := hr
      refine Tm_ite (fun _ => ?_) (fun y => absurd (hr.mp y) (by omega))
      refine Tm_suc (fun k => by rw [x_readProgram]) ?_
      refine Tm_ob (Tm_and (p_word h (s := 1) (by decide) upd_same) (s_isW01 _ τ)) (fun r2 hr2 => ?_)
      obtain ⟨a2, τ2⟩ := r2
      obtain ⟨⟨rfl, hr2⟩, h01⟩ := hr2
      have hL : upd (fun _ => (0 : Int32)) 1 a2 1 = nI (if decide (tkK T n g.1 = 33) = true then 1 else 0) := by
        rw [upd_same]
        by_cases e : tkK T n g.1 = 33
        · rw [if_pos (decide_eq_true e)]
          rcases h01 with z | z
          · exact absurd z (hr2.mpr e)
          · exact z
        · rw [if_neg (by rw [decide_eq_false e]; decide)]
          rcases h01 with z | z
          · exact z
          · have z : a2 = 1 := z
            exact absurd (hr2.mp (fun w => absurd (z.symm.trans w) (by decide))) e
      rcases pb_any hG with ⟨yf, hv, hy⟩ | ⟨r, hv, hg2⟩
      · refine Tm_ob (p_callable hv hD0 (by omega) (by omega) hL) (fun r2 hr2 => ?_)
        obtain ⟨⟨m, hB⟩, hV⟩ := hr2
        rw [K1 _ hy]
        exact rp_b11 hB (FrP_tr hF hV)
      · refine Tm_ob (p_callable hv hD0 (by omega) (by omega) hL) (fun r2 hr2 => ?_)
        obtain ⟨hD2, hV⟩ := hr2
        exact ih _ _ hg2 K1 K2 _ N hD2 (gCal_mo p1 p5 p2 p6 ⟨p3, p4⟩ hv).2 (FrP_tr hF hV)
    refine Tm_suc (fun k => by rw [x_readProgram]) ?_
    refine Tm_ite (fun _ => ?_) (fun z => absurd (PS_ok h) z)
    refine Tm_ob (p_word h (s := 0) (by decide) upd_same) (fun r hr => ?_)
    obtain ⟨a, τ⟩ := r
    obtain ⟨rfl, hr⟩ := hr
    refine Tm_ite (fun y1 => ?_) (fun y1 => l32 (hr.mp y1))
    refine Tm_ob (p_word h (s := 2) (by decide) upd_same) (fun r hr2 => ?_)
    obtain ⟨a2, τ2⟩ := r
    obtain ⟨rfl, hr2⟩ := hr2
    refine Tm_ite (fun y2 => ?_) (fun y2 => l33 (Or.inl (hr2.mp y2)))
    refine Tm_ob (p_word h (s := 1) (by decide) upd_same) (fun r hr3 => ?_)
    obtain ⟨a3, τ3⟩ := r
    obtain ⟨rfl, hr3⟩ := hr3
    refine Tm_ite (fun y3 => ?_) (fun y3 => l33 (Or.inr (hr3.mp y3)))
    rw [if_neg (fun w => hr.mpr w y1), if_neg (fun w => w.elim (fun w => hr2.mpr w y2) (fun w => hr3.mpr w y3))] at hG
    obtain rfl := Option.some.inj hG
    exact rp_14 (K2 g rfl) hD0 hP0 hF
/-- the state as a text's reading begins -/
def mBp (σ : MS) : MS := (upd (upd (upd (upd (upd (upd (upd (upd (upd (mBeg σ).1 22 1) 24 0) 25 0) 30 0) 31 0) 44 0) 37 0) 42 1) 43 1, σ.2.1, updG σ.2.2 21 (upd (σ.2.2 21) 0 0))
theorem mBp_s {σ : MS} {j : Nat} (h : ¬ (j = 5 ∨ j = 10 ∨ j = 13 ∨ j = 38 ∨ j = 52 ∨ j = 45 ∨ j = 22 ∨ j = 24 ∨ j = 25 ∨ j = 30 ∨ j = 31 ∨ j = 44 ∨ j = 37 ∨ j = 42 ∨ j = 43)) : (mBp σ).1 j = σ.1 j := by
  show upd (upd (upd (upd (upd (upd (upd (upd (upd (upd (upd (upd (upd (upd (upd σ.1 5 0) 10 0) 13 0) 38 0) 52 0) 45 0) 22 1) 24 0) 25 0) 30 0) 31 0) 44 0) 37 0) 42 1) 43 1 j = _
  rw [upd_other (by omega), upd_other (by omega), upd_other (by omega), upd_other (by omega), upd_other (by omega), upd_other (by omega), upd_other (by omega), upd_other (by omega), upd_other (by omega), upd_other (by omega), upd_other (by omega), upd_other (by omega), upd_other (by omega), upd_other (by omega), upd_other (by omega)]
theorem mBp_o {σ : MS} {j : Nat} (h : j ≠ 21) : (mBp σ).2.2 j = σ.2.2 j := updG_other h
theorem s_begP (L : Nat → Int32) (σ : MS) {R : Int32 × MS → Prop} (H : ∀ N : Nat → Int32, Tm (fun k => x_readProgram k 10 N (mBp σ)) R) : Tm (fun k => x_readProgram k 0 L σ) R := by
  refine Tm_suc (fun k => by rw [x_readProgram]) ?_
  refine Tm_ob (s_beginText _ σ) (fun r hr => ?_)
  rw [hr]
  refine Tm_suc (fun k => by rw [x_readProgram]) ?_
  refine Tm_suc (fun k => by rw [x_readProgram]) ?_
  refine Tm_suc (fun k => by rw [x_readProgram]) ?_
  refine Tm_suc (fun k => by rw [x_readProgram]) ?_
  refine Tm_suc (fun k => by rw [x_readProgram]) ?_
  refine Tm_suc (fun k => by rw [x_readProgram]) ?_
  refine Tm_suc (fun k => by rw [x_readProgram]) ?_
  refine Tm_chk (by decide) ?_
  refine Tm_suc (fun k => by rw [x_readProgram]) ?_
  refine Tm_suc (fun k => by rw [x_readProgram]) ?_
  exact H L
theorem p_readProgram {σ : MS} {L : Nat → Int32} {x : Fl (PRG × ST)} (hn : mN σ n) (hT : σ.2.2 3 = T) (hW : σ.2.2 1 = mT mWords 264) (hA : PA σ) (hG : gPrg T n (g0 T n (σ.2.2 10) (σ.2.2 11)) = some x) : Tm (fun k => x_readProgram k 0 L σ) (PoR T n σ x) := by
  refine s_begP L σ (fun N => ?_)
  have hF0 : FrP σ (mBp σ) := ⟨fun j hj => mBp_s (by omega), rfl, fun j hj => mBp_o (by omega), fun z p hp => by rw [mBp_o (by decide)]; exact z p hp⟩
  have hP0 : P0 T n (g0 T n (σ.2.2 10) (σ.2.2 11)).2.1 0 (1, 0, fun _ _ => 0, fun _ => 0, fun _ => 0) (mBp σ) := by
    refine ⟨⟨(mBp_s (by decide)).trans hn.1, hn.2⟩, (mBp_o (by decide)).trans hT, (mBp_o (by decide)).trans hW, rfl, rfl, ⟨rfl, by decide⟩, ⟨rfl, Nat.le_refl _, rfl, fun j _ _ i h1 h2 => ?_, fun i hi => ?_⟩, ⟨rfl, Nat.zero_le _, rfl, Nat.zero_le _, fun i hi => absurd hi (Nat.not_lt_zero i)⟩, ⟨⟨rfl, Nat.le_refl _, trivial⟩, ⟨rfl, Nat.le_refl _, trivial⟩, ⟨rfl, Nat.zero_le _, fun k x hx => by cases hx⟩⟩, ⟨⟨fun z => absurd (show (1 : Int32) = 0 from z) (by decide), fun z => absurd (show true = false from z) (by decide)⟩, ⟨fun z => absurd (show (1 : Int32) = 0 from z) (by decide), fun z => absurd (show true = false from z) (by decide)⟩, fun x hx => by cases hx⟩⟩
    · exact absurd h2 (show ¬ i < 1 by omega)
    · exact absurd hi (Nat.not_lt_zero i)
  unfold gPrg at hG
  refine Tm_suc (fun k => by rw [x_readProgram]) ?_
  refine Tm_ob (p_first (M := 0) (P := 0) (w := 0) hP0 _) (fun r hr => ?_)
  have hFr : FrP σ r.2 := FrP_tr hF0 (FrP_Z (FrZ_of hr.1))
  by_cases c : tkK T n (sk T n 0) = 0
  · rw [if_pos c] at hG
    obtain rfl := Option.some.inj hG
    rcases hr.2 with ⟨_, hB⟩ | ⟨y, _⟩
    · exact rp_b11 hB hFr
    · exact absurd c y
  · rw [if_neg c] at hG
    rcases hr.2 with ⟨y, _⟩ | ⟨_, hS⟩
    · exact absurd y c
    · have u : ∀ j, ¬ ((5 ≤ j ∧ j ≤ 13) ∨ j = 22 ∨ j = 24 ∨ j = 38 ∨ (46 ≤ j ∧ j ≤ 48) ∨ j = 52) → r.2.1 j = (mBp σ).1 j := hr.1.1
      have hD : PD T n (g0 T n (σ.2.2 10) (σ.2.2 11)) r.2 := by
        refine ⟨hS, ⟨fun x hx => (by cases hx), (u 45 (by decide)), (u 44 (by decide)), Nat.zero_le _, fun i => ?_⟩, ⟨u 30 (by decide), Nat.zero_le _, u 31 (by decide), Nat.le_refl _⟩, ⟨rfl, rfl, rfl⟩, rfl, fun x hx => (by cases hx), fun i hi => absurd hi (Nat.not_lt_zero i), hFr.2.2.2 hA⟩
        rw [hr.1.2.2.1 10 (by decide), hr.1.2.2.1 11 (by decide), mBp_o (by decide), mBp_o (by decide)]
        exact ⟨rfl, rfl⟩
      rcases pb_any hG with ⟨yf, hg, hx⟩ | ⟨g, hg, hx⟩
      · exact rp_11 _ _ _ hg (fun z hz => by cases hz; exact hx) (fun g' hg' => by cases hg') _ N hD (g0_PL T n _ _) hFr
      · exact rp_11 _ _ _ hg (fun z hz => by cases hz) (fun g' hg' => by obtain rfl := Sum.inr.inj hg'; exact hx) _ N hD (g0_PL T n _ _) hFr
end RPR
end JnS92
section JnS93
/-! The reference's heap: objects lie one behind the other; some are good (values), the rest is of no matter. -/
/-- objects one behind the other from a to b -/
def Til (H : Nat → Int32) (b : Nat) : Nat → List Nat → Prop
  | a, [] => a = b
  | a, v :: l => v = a ∧ ∃ n, H (v + 1) = nI n ∧ v + 4 + n ≤ b ∧ Til H b (v + 4 + n) l
/-- a value: om, a truth, or a good object -/
def Vd (g : Nat → Prop) (x : Int32) : Prop := ∃ k, x = nI k ∧ (k < 3 ∨ g k)
def szN (H : Nat → Int32) (k : Nat) : Nat := if k < 3 then 1 else (H (k + 2)).toNatClampNeg
def htN (H : Nat → Int32) (k : Nat) : Nat := if k < 3 then 0 else (H (k + 3)).toNatClampNeg
def kdN (H : Nat → Int32) (k : Nat) : Nat := if k = 0 then 0 else if k < 3 then 1 else (H k).toNatClampNeg
def smS (H : Nat → Int32) (v : Nat) : Nat → Nat
  | 0 => 0
  | i + 1 => smS H v i + szN H (H (v + 4 + i)).toNatClampNeg
/-- the sign is one or less one; or there are no limbs, and it is nought -/
def SgOK (H : Nat → Int32) (a n : Nat) : Prop := (H (a + 4) = 1 ∨ H (a + 4) = -1) ∨ (n = 1 ∧ H (a + 4) = 0)
/-- limbs of a whole, its sign -/
def WHk (H : Nat → Int32) (v n : Nat) : Prop := (∀ i, i + 1 < n → ∃ d, d ≤ 65535 ∧ H (v + 5 + i) = nI d) ∧ SgOK H v n
/-- a sign that a whole may be made with -/
def SgO (x : Int32) (R : Nat → Int32) (c : Nat) : Prop := (x = 1 ∨ x = -1) ∨ ∀ i, i < c → R i = 0
def GOn (H : Nat → Int32) (g : Nat → Prop) (v k n s h : Nat) : Prop :=
  H v = nI k ∧ H (v + 1) = nI n ∧ H (v + 2) = nI s ∧ H (v + 3) = nI h ∧ (2 ≤ k ∧ k ≤ 6) ∧ (1 ≤ s ∧ s ≤ 1000) ∧ h ≤ 30 ∧ n ≤ 3996 ∧
  (k = 2 → 1 ≤ n ∧ n ≤ 65 ∧ s = 1 + n / 2 ∧ WHk H v n) ∧
  (k = 3 → n = 1 ∧ s = 1 ∧ ∃ a, a ≤ 1000000 ∧ H (v + 4) = nI a) ∧
  (k = 4 → s = 1 + (n + 3) / 4) ∧
  (5 ≤ k → s = 1 + smS H v n ∧ ∀ i, i < n → ∃ m, H (v + 4 + i) = nI m ∧ (m < 3 ∨ g m) ∧ htN H m < h)
def HO (H : Nat → Int32) (g : Nat → Prop) (l : List Nat) (a b : Nat) : Prop := Til H b a l ∧ ∀ v, g v → v ∈ l ∧ ∃ k n s h, GOn H g v k n s h
/-- the heap of a state -/
def HS (g : Nat → Prop) (l : List Nat) (B h : Nat) (σ : MS) : Prop := σ.1 54 = nI B ∧ (B = 0 ∨ B = 870000) ∧ σ.1 55 = nI h ∧ h ≤ B + 870000 ∧ HO (σ.2.2 28) g l (B + 4) h
section HEA
variable {H H' : Nat → Int32} {g g' : Nat → Prop} {l : List Nat} {a b : Nat}
theorem Til_le : ∀ (l : List Nat) (a : Nat), Til H b a l → a ≤ b
  | [], a, h => Nat.le_of_eq h
  | v :: l, a, ⟨h1, n, h2, h3, h4⟩ => by omega
theorem Til_mem : ∀ (l : List Nat) (a : Nat), Til H b a l → ∀ v ∈ l, a ≤ v ∧ ∃ n, H (v + 1) = nI n ∧ v + 4 + n ≤ b
  | [], a, h, v, hv => by cases hv
  | w :: l, a, ⟨h1, n, h2, h3, h4⟩, v, hv => by
    rcases List.mem_cons.mp hv with hv | hv
    · subst hv; exact ⟨by omega, n, h2, h3⟩
    · obtain ⟨k1, k2⟩ := Til_mem l _ h4 v hv
      exact ⟨by omega, k2⟩
theorem Til_ext : ∀ (l : List Nat) (a : Nat), (∀ i, a ≤ i → i < b → H' i = H i) → Til H b a l → Til H' b a l
  | [], a, _, h => h
  | v :: l, a, he, ⟨h1, n, h2, h3, h4⟩ => ⟨h1, n, by rw [he (v + 1) (by omega) (by omega)]; exact h2, h3, Til_ext l _ (fun i h5 h6 => he i (by omega) h6) h4⟩
theorem Til_snoc : ∀ (l : List Nat) (a : Nat) (n : Nat), Til H b a l → H (b + 1) = nI n → Til H (b + 4 + n) a (l ++ [b])
  | [], a, n, h, hn => ⟨h.symm, n, by have h : a = b := h; exact hn, by have h : a = b := h; omega, rfl⟩
  | v :: l, a, n, ⟨h1, m, h2, h3, h4⟩, hn => ⟨h1, m, h2, by omega, Til_snoc l _ n h4 hn⟩
theorem HO_at (h : HO H g l a b) (hb : b < 2147483648) {v : Nat} (hv : g v) : ∃ k n s t, GOn H g v k n s t ∧ a ≤ v ∧ v + 4 + n ≤ b := by
  obtain ⟨h1, k, n, s, t, h2⟩ := h.2 v hv
  obtain ⟨h3, n', h4, h5⟩ := Til_mem _ _ h.1 v h1
  have hle := Til_le _ _ h.1
  refine ⟨k, n, s, t, h2, h3, ?_⟩
  have hn := h2.2.2.2.2.2.2.2.1
  have := (n_eq (p := n) (q := n') (by omega) (by omega)).mp (h2.2.1.symm.trans h4)
  omega
theorem szN_ext (he : ∀ i, a ≤ i → i < b → H' i = H i) (h : HO H g l a b) (hb : b < 2147483648) {m : Nat} (hm : m < 3 ∨ g m) : szN H' m = szN H m ∧ htN H' m = htN H m := by
  unfold szN htN
  by_cases c : m < 3
  · rw [if_pos c, if_pos c, if_pos c, if_pos c]; exact ⟨rfl, rfl⟩
  · rw [if_neg c, if_neg c, if_neg c, if_neg c]
    rcases hm with hm | hm
    · exact absurd hm c
    · obtain ⟨k, n, s, t, h1, h2, h3⟩ := HO_at h hb hm
      rw [he (m + 2) (by omega) (by omega), he (m + 3) (by omega) (by omega)]; exact ⟨rfl, rfl⟩
theorem GOn_ext (he : ∀ i, a ≤ i → i < b → H' i = H i) (h : HO H g l a b) (hb : b < 2147483648) (hg : ∀ v, g v → g' v) {v k n s t : Nat} (hv : a ≤ v) (hn : v + 4 + n ≤ b) (hG : GOn H g v k n s t) : GOn H' g' v k n s t := by
  obtain ⟨h1, h2, h3, h4, h5, h6, h7, h8, h9, h10, h11, h12⟩ := hG
  refine ⟨by rw [he v (by omega) (by omega)]; exact h1, by rw [he (v + 1) (by omega) (by omega)]; exact h2, by rw [he (v + 2) (by omega) (by omega)]; exact h3, by rw [he (v + 3) (by omega) (by omega)]; exact h4, h5, h6, h7, h8, fun c => ?_, fun c => ?_, h11, fun c => ?_⟩
  · obtain ⟨k1, k2, k3, k4⟩ := h9 c
    exact ⟨k1, k2, k3, fun i hi => by rw [he _ (by omega) (by omega)]; exact k4.1 i hi, by unfold SgOK; rw [he _ (by omega) (by omega)]; exact k4.2⟩
  · obtain ⟨k1, k2, a, k3, k4⟩ := h10 c
    exact ⟨k1, k2, a, k3, by rw [he _ (by omega) (by omega)]; exact k4⟩
  · obtain ⟨k1, k2⟩ := h12 c
    have hs : ∀ j, j ≤ n → smS H' v j = smS H v j := by
      intro j
      induction j with
      | zero => intro _; rfl
      | succ j ih =>
        intro hj
        obtain ⟨m, m1, m2, m3⟩ := k2 j (by omega)
        show smS H' v j + szN H' (H' (v + 4 + j)).toNatClampNeg = smS H v j + szN H (H (v + 4 + j)).toNatClampNeg
        rw [ih (by omega), he _ (by omega) (by omega), m1]
        have hmb : m < 2147483648 := by
          rcases m2 with m2 | m2
          · omega
          · obtain ⟨_, _, _, _, _, _, z⟩ := HO_at h hb m2
            omega
        rw [n_cl hmb, (szN_ext he h hb m2).1]
    refine ⟨by rw [hs n (Nat.le_refl _)]; exact k1, fun i hi => ?_⟩
    obtain ⟨m, m1, m2, m3⟩ := k2 i hi
    refine ⟨m, by rw [he _ (by omega) (by omega)]; exact m1, m2.imp id (hg m), ?_⟩
    rw [(szN_ext he h hb m2).2]; exact m3
/-- more is laid behind; what is good stays so -/
theorem HO_ext {b' : Nat} {l' : List Nat} (he : ∀ i, a ≤ i → i < b → H' i = H i) (h : HO H g l a b) (hb : b < 2147483648) (hl : Til H' b' a l') (hs : ∀ v ∈ l, v ∈ l') : HO H' g l' a b' := ⟨hl, fun v hv => by
  obtain ⟨k, n, s, t, h1, h2, h3⟩ := HO_at h hb hv
  exact ⟨hs v (h.2 v hv).1, k, n, s, t, GOn_ext he h hb (fun _ z => z) h2 h3 h1⟩⟩
/-- one more is good -/
theorem HO_add {v k n s t : Nat} (h : HO H g l a b) (hv : v ∈ l) (hG : GOn H g v k n s t) : HO H (fun w => g w ∨ w = v) l a b := by
  refine ⟨h.1, fun w hw => ?_⟩
  have mo : ∀ u k n s t, GOn H g u k n s t → GOn H (fun w => g w ∨ w = v) u k n s t := by
    intro u k n s t hu
    obtain ⟨h1, h2, h3, h4, h5, h6, h7, h8, h9, h10, h11, h12⟩ := hu
    refine ⟨h1, h2, h3, h4, h5, h6, h7, h8, h9, h10, h11, fun c => ⟨(h12 c).1, fun i hi => ?_⟩⟩
    obtain ⟨m, m1, m2, m3⟩ := (h12 c).2 i hi
    exact ⟨m, m1, m2.imp id Or.inl, m3⟩
  rcases hw with hw | hw
  · obtain ⟨h1, k, n, s, t, h2⟩ := h.2 w hw
    exact ⟨h1, k, n, s, t, mo _ _ _ _ _ h2⟩
  · subst hw; exact ⟨hv, k, n, s, t, mo _ _ _ _ _ hG⟩
end HEA
section HSR
variable {g : Nat → Prop} {l : List Nat} {B h : Nat} {σ : MS}
theorem HS_b (hS : HS g l B h σ) : B + 4 ≤ h ∧ h ≤ 1740000 := by
  obtain ⟨h1, h2, h3, h4, h5⟩ := hS
  exact ⟨Til_le _ _ h5.1, by omega⟩
theorem HS_at (hS : HS g l B h σ) {v : Nat} (hv : g v) : ∃ k n s t, GOn (σ.2.2 28) g v k n s t ∧ B + 4 ≤ v ∧ v + 4 + n ≤ h := HO_at hS.2.2.2.2 (by have := HS_b hS; omega) hv
theorem HS_vb (hS : HS g l B h σ) {m : Nat} (hm : m < 3 ∨ g m) : m < 1740000 := by
  rcases hm with hm | hm
  · omega
  · obtain ⟨_, _, _, _, _, _, z⟩ := HS_at hS hm
    have := HS_b hS
    omega
theorem s_kind (hS : HS g l B h σ) {m : Nat} (hm : m < 3 ∨ g m) {L : Nat → Int32} (hL : L 1 = nI m) : Tm (fun k => x_kind k 0 L σ) (fun r => r = (nI (kdN (σ.2.2 28) m), σ)) := by
  have hb := HS_vb hS hm
  unfold kdN
  refine Tm_suc (fun k => by rw [x_kind]) ?_
  rw [hL]
  refine Tm_ite (fun c => ?_) (fun c => ?_)
  · have c := (n_eq0 (by omega)).mp c
    refine Tm_suc (fun k => by rw [x_kind]) ?_
    rw [if_pos c]
    exact Tm_some rfl
  · have c : ¬ m = 0 := fun z => c (by rw [z]; rfl)
    rw [if_neg c]
    refine Tm_suc (fun k => by rw [x_kind]) ?_
    rw [hL]
    refine Tm_ite (fun d => ?_) (fun d => ?_)
    · have d := (n_le (p := 3) (by decide) (by omega)).mp d
      rw [if_neg (by omega)]
      refine Tm_suc (fun k => by rw [x_kind]) ?_
      rw [hL]
      refine Tm_chk (n_in (by omega) (by omega)) ?_
      rw [n_cl (p := m) (by omega)]
      refine Tm_suc (fun k => by rw [x_kind]) ?_
      have hg : g m := hm.resolve_left (by omega)
      obtain ⟨k, n, s, t, h1, _⟩ := HS_at hS hg
      have hk := h1.2.2.2.2.1
      refine Tm_some ?_
      rw [upd_same, h1.1, n_cl (by omega)]
    · have d : ¬ 3 ≤ m := fun z => d ((n_le (p := 3) (by decide) (by omega)).mpr z)
      rw [if_pos (by omega)]
      refine Tm_suc (fun k => by rw [x_kind]) ?_
      exact Tm_some rfl
theorem s_size (hS : HS g l B h σ) {m : Nat} (hm : m < 3 ∨ g m) {L : Nat → Int32} (hL : L 1 = nI m) : Tm (fun k => x_size k 0 L σ) (fun r => r = (nI (szN (σ.2.2 28) m), σ)) := by
  have hb := HS_vb hS hm
  unfold szN
  refine Tm_suc (fun k => by rw [x_size]) ?_
  rw [hL]
  refine Tm_ite (fun d => ?_) (fun d => ?_)
  · have d := (n_le (p := 3) (by decide) (by omega)).mp d
    rw [if_neg (by omega)]
    have hg : g m := hm.resolve_left (by omega)
    obtain ⟨k, n, s, t, h1, h2, h3⟩ := HS_at hS hg
    have h6 := h1.2.2.2.2.2.1
    have hB := HS_b hS
    refine Tm_suc (fun k => by rw [x_size]) ?_
    rw [hL, show nI m + 2 = nI (m + 2) from n_add (q := 2) (by omega)]
    refine Tm_chk (n_in (by omega) (by omega)) ?_
    rw [n_cl (p := m + 2) (by omega)]
    refine Tm_suc (fun k => by rw [x_size]) ?_
    refine Tm_some ?_
    rw [upd_same, h1.2.2.1, n_cl (by omega)]
  · have d : ¬ 3 ≤ m := fun z => d ((n_le (p := 3) (by decide) (by omega)).mpr z)
    rw [if_pos (by omega)]
    refine Tm_suc (fun k => by rw [x_size]) ?_
    exact Tm_some rfl
theorem s_height (hS : HS g l B h σ) {m : Nat} (hm : m < 3 ∨ g m) {L : Nat → Int32} (hL : L 1 = nI m) : Tm (fun k => x_height k 0 L σ) (fun r => r = (nI (htN (σ.2.2 28) m), σ)) := by
  have hb := HS_vb hS hm
  unfold htN
  refine Tm_suc (fun k => by rw [x_height]) ?_
  rw [hL]
  refine Tm_ite (fun d => ?_) (fun d => ?_)
  · have d := (n_le (p := 3) (by decide) (by omega)).mp d
    rw [if_neg (by omega)]
    have hg : g m := hm.resolve_left (by omega)
    obtain ⟨k, n, s, t, h1, h2, h3⟩ := HS_at hS hg
    have h6 := h1.2.2.2.2.2.2.1
    have hB := HS_b hS
    refine Tm_suc (fun k => by rw [x_height]) ?_
    rw [hL, show nI m + 3 = nI (m + 3) from n_add (q := 3) (by omega)]
    refine Tm_chk (n_in (by omega) (by omega)) ?_
    rw [n_cl (p := m + 3) (by omega)]
    refine Tm_suc (fun k => by rw [x_height]) ?_
    refine Tm_some ?_
    rw [upd_same, h1.2.2.2.1, n_cl (by omega)]
  · have d : ¬ 3 ≤ m := fun z => d ((n_le (p := 3) (by decide) (by omega)).mpr z)
    rw [if_pos (by omega)]
    refine Tm_suc (fun k => by rw [x_height]) ?_
    exact Tm_some rfl
theorem szN_b (hS : HS g l B h σ) {m : Nat} (hm : m < 3 ∨ g m) : 1 ≤ szN (σ.2.2 28) m ∧ szN (σ.2.2 28) m ≤ 1000 ∧ htN (σ.2.2 28) m ≤ 30 := by
  unfold szN htN
  by_cases c : m < 3
  · rw [if_pos c, if_pos c]; decide
  · rw [if_neg c, if_neg c]
    obtain ⟨k, n, s, t, h1, _⟩ := HS_at hS (hm.resolve_left c)
    have h6 := h1.2.2.2.2.2.1
    have h7 := h1.2.2.2.2.2.2.1
    rw [h1.2.2.1, h1.2.2.2.1, n_cl (by omega), n_cl (by omega)]
    omega
end HSR
end JnS93
section JnS94
/-! Values of the reference are compared. -/
section CMP
variable {g : Nat → Prop} {l : List Nat} {B h : Nat} {σ : MS}
def rkN (H : Nat → Int32) (k : Nat) : Nat := if k < 3 then k else (H k).toNatClampNeg + 1
theorem s_rank (hS : HS g l B h σ) {m : Nat} (hm : m < 3 ∨ g m) {L : Nat → Int32} (hL : L 1 = nI m) : Tm (fun k => x_rank k 0 L σ) (fun r => r = (nI (rkN (σ.2.2 28) m), σ)) := by
  have hb := HS_vb hS hm
  unfold rkN
  refine Tm_suc (fun k => by rw [x_rank]) ?_
  rw [hL]
  refine Tm_ite (fun d => ?_) (fun d => ?_)
  · have d := (n_le (p := 3) (by decide) (by omega)).mp d
    rw [if_neg (by omega)]
    obtain ⟨k, n, s, t, h1, h2, h3⟩ := HS_at hS (hm.resolve_left (by omega))
    have hk := h1.2.2.2.2.1
    refine Tm_suc (fun k => by rw [x_rank]) ?_
    rw [hL]
    refine Tm_chk (n_in (by omega) (by omega)) ?_
    rw [n_cl (p := m) (by omega)]
    refine Tm_suc (fun k => by rw [x_rank]) ?_
    refine Tm_some ?_
    rw [upd_same, h1.1, n_cl (by omega), n_add1]
  · have d : ¬ 3 ≤ m := fun z => d ((n_le (p := 3) (by decide) (by omega)).mpr z)
    rw [if_pos (by omega)]
    refine Tm_suc (fun k => by rw [x_rank]) ?_
    exact Tm_some rfl
theorem n_sub0 {p q : Nat} (hp : p < 2147483648) (hq : q < 2147483648) : nI p - nI q = 0 ↔ p = q := by
  rw [i_eq, i_sub (by rw [n_int hp, n_int hq]; omega) (by rw [n_int hp, n_int hq]; omega), n_int hp, n_int hq]
  show (p : Int) - q = 0 ↔ _
  omega
theorem n_pred (p : Nat) (h : p < 2147483647) : nI (p + 1) + (-1) = nI p := by
  rw [i_eq, i_add (by rw [n_int (by omega)]; show (-2147483648 : Int) ≤ ((p + 1 : Nat) : Int) + -1; omega) (by rw [n_int (by omega)]; show ((p + 1 : Nat) : Int) + -1 ≤ (2147483647 : Int); omega), n_int (by omega), n_int (by omega)]
  show ((p + 1 : Nat) : Int) + -1 = p
  omega
theorem s_signOf (hS : HS g l B h σ) {m : Nat} (hm : m + 4 < 1740000) {L : Nat → Int32} (hL : L 1 = nI m) : Tm (fun k => x_signOf k 0 L σ) (fun r => r = (σ.2.2 28 (m + 4), σ)) := by
  refine Tm_suc (fun k => by rw [x_signOf]) ?_
  rw [hL, show nI m + 4 = nI (m + 4) from n_add (q := 4) (by omega)]
  refine Tm_chk (n_in (by omega) (by omega)) ?_
  rw [n_cl (p := m + 4) (by omega)]
  exact Tm_some rfl
/-- two rows of limbs -/
theorem s_compareWholes (hS : HS g l B h σ) {a b n m : Nat} (ha : σ.2.2 28 (a + 1) = nI n) (hb : σ.2.2 28 (b + 1) = nI m) (hn : n ≤ 3996) (hm : m ≤ 3996) (han : a + 4 + n ≤ 1740000) (hbm : b + 4 + m ≤ 1740000) (hn1 : 1 ≤ n) (hm1 : 1 ≤ m) {L : Nat → Int32} (h1 : L 1 = nI a) (h2 : L 2 = nI b) : Tm (fun k => x_compareWholes k 0 L σ) (fun r => r.2 = σ) := by
  have l3 : ∀ N : Nat → Int32, N 1 = nI a → Tm (fun k => x_compareWholes k 3 N σ) (fun r => r.2 = σ) := fun N n1 => by
    refine Tm_suc (fun k => by rw [x_compareWholes]) ?_
    refine Tm_ob (s_signOf hS (m := a) (by omega) (by rw [upd_same]; exact n1)) (fun r hr => ?_)
    rw [hr]
    refine Tm_ite (fun _ => ?_) (fun _ => ?_)
    · refine Tm_suc (fun k => by rw [x_compareWholes]) ?_
      refine Tm_suc (fun k => by rw [x_compareWholes]) ?_
      exact Tm_some rfl
    · refine Tm_suc (fun k => by rw [x_compareWholes]) ?_
      exact Tm_some rfl
  have l2 : ∀ (i : Nat) (N : Nat → Int32), i < n → N 1 = nI a → N 2 = nI b → N 6 = nI i → (N 5 = 0 → n = m) → Tm (fun k => x_compareWholes k 2 N σ) (fun r => r.2 = σ) := by
    intro i
    induction i with
    | zero =>
      intro N hi n1 n2 n6 n5
      refine Tm_suc (fun k => by rw [x_compareWholes]) ?_
      rw [n6]
      exact Tm_ite (fun _ => l3 N n1) (fun z => absurd ((n_le0 (by omega)).mpr rfl) z)
    | succ i ih =>
      intro N hi n1 n2 n6 n5
      refine Tm_suc (fun k => by rw [x_compareWholes]) ?_
      rw [n6, n1, n2]
      refine Tm_ite (fun z => absurd ((n_le0 (by omega)).mp z) (by omega)) (fun _ => ?_)
      refine Tm_ite (fun z => ?_) (fun _ => l3 N n1)
      have hnm := n5 z
      rw [show nI a + 4 = nI (a + 4) from n_add (q := 4) (by omega), show nI b + 4 = nI (b + 4) from n_add (q := 4) (by omega), n_add (by omega), n_add (by omega)]
      refine Tm_chk (n_in (by omega) (by omega)) ?_
      refine Tm_chk (n_in (by omega) (by omega)) ?_
      refine ih _ (by omega) ?_ ?_ ?_ (fun _ => hnm)
      · rw [upd_other (by decide), upd_other (by decide)]; exact n1
      · rw [upd_other (by decide), upd_other (by decide)]; exact n2
      · rw [upd_same]
        exact n_pred i (by omega)
  refine Tm_suc (fun k => by rw [x_compareWholes]) ?_
  refine Tm_ob (s_signOf hS (m := a) (by omega) (by rw [upd_same]; exact h1)) (fun r hr => ?_)
  rw [hr]
  refine Tm_ob (s_signOf hS (m := b) (by omega) (by rw [upd_same]; exact h2)) (fun r2 hr2 => ?_)
  rw [hr2]
  refine Tm_ite (fun _ => ?_) (fun _ => ?_)
  · refine Tm_suc (fun k => by rw [x_compareWholes]) ?_
    rw [h1, h2, n_add1, n_add1]
    refine Tm_chk (n_in (by omega) (by omega)) ?_
    refine Tm_chk (n_in (by omega) (by omega)) ?_
    rw [n_cl (p := a + 1) (by omega), n_cl (p := b + 1) (by omega), ha, hb]
    refine l2 (n - 1) _ (by omega) ?_ ?_ ?_ (fun z => ?_)
    · rw [upd_other (by decide), upd_other (by decide), upd_other (by decide), upd_other (by decide)]; exact h1
    · rw [upd_other (by decide), upd_other (by decide), upd_other (by decide), upd_other (by decide)]; exact h2
    · rw [upd_same]
      exact n_sub (p := n) (q := 1) (by omega) (by omega)
    · rw [upd_other (by decide), upd_same] at z
      exact (n_sub0 (by omega) (by omega)).mp z
  · refine Tm_ob (s_signOf hS (m := a) (by omega) (by rw [upd_same]; exact h1)) (fun r hr => ?_)
    rw [hr]
    refine Tm_ob (s_signOf hS (m := b) (by omega) (by rw [upd_same]; exact h2)) (fun r2 hr2 => ?_)
    rw [hr2]
    exact Tm_some rfl
theorem xC_0 (k d b : Nat) (L : Nat → Int32) (σ : MS) : x_GC (k + 1) d 0 b L σ = s_compare (x_GC k) k d b L σ := rfl
theorem s_cmp1 (hS : HS g l B h σ) {d : Nat} (hrec : ∀ e, d = e + 1 → ∀ (a b : Nat) (L : Nat → Int32), (a < 3 ∨ g a) → (b < 3 ∨ g b) → htN (σ.2.2 28) a ≤ e → L 1 = nI a → L 2 = nI b → Tm (fun k => x_GC k e 0 0 L σ) (fun r => r.2 = σ)) {a b : Nat} {L : Nat → Int32} (ha : a < 3 ∨ g a) (hb : b < 3 ∨ g b) (hd : htN (σ.2.2 28) a ≤ d) (h1 : L 1 = nI a) (h2 : L 2 = nI b) : Tm (fun k => x_GC k d 0 0 L σ) (fun r => r.2 = σ) := by
  have ba := HS_vb hS ha
  have bb := HS_vb hS hb
  have hB := HS_b hS
  refine Tm_suc (fun k => by rw [xC_0]) ?_
  refine Tm_ite (fun _ => Tm_some rfl) (fun hne => ?_)
  rw [h1, h2, n_eq (by omega) (by omega)] at hne
  refine Tm_suc (fun k => by rw [xC_0]) ?_
  refine Tm_ob (s_rank hS ha (by rw [upd_same]; exact h1)) (fun r1 hr1 => ?_)
  rw [hr1]
  refine Tm_ob (s_rank hS hb (by rw [upd_same]; exact h2)) (fun r2 hr2 => ?_)
  rw [hr2]
  have rb : ∀ m, (m < 3 ∨ g m) → rkN (σ.2.2 28) m ≤ 7 ∧ (¬ m < 3 → 3 ≤ rkN (σ.2.2 28) m ∧ ∃ k n s t, GOn (σ.2.2 28) g m k n s t ∧ B + 4 ≤ m ∧ m + 4 + n ≤ h ∧ rkN (σ.2.2 28) m = k + 1) ∧ (m < 3 → rkN (σ.2.2 28) m = m) := by
    intro m hm
    unfold rkN
    by_cases c : m < 3
    · rw [if_pos c]; exact ⟨by omega, fun z => absurd c z, fun _ => rfl⟩
    · rw [if_neg c]
      obtain ⟨k, n, s, t, g1, g2, g3⟩ := HS_at hS (hm.resolve_left c)
      have hk := g1.2.2.2.2.1
      rw [g1.1, n_cl (by omega)]
      exact ⟨by omega, fun _ => ⟨by omega, k, n, s, t, g1, g2, g3, rfl⟩, fun z => absurd z c⟩
  obtain ⟨ra1, ra2, ra3⟩ := rb a ha
  obtain ⟨rb1, rb2, rb3⟩ := rb b hb
  refine Tm_ite (fun z => ?_) (fun _ => Tm_some rfl)
  have z := (n_sub0 (by omega) (by omega)).mp z
  have ca : ¬ a < 3 := fun c => by
    have e1 := ra3 c
    by_cases c2 : b < 3
    · have e2 := rb3 c2; omega
    · have e2 := (rb2 c2).1; omega
  have cb : ¬ b < 3 := fun c => by
    have e1 := rb3 c
    have e2 := (ra2 ca).1
    omega
  obtain ⟨_, k, n, s, t, g1, g2, g3, g4⟩ := ra2 ca
  obtain ⟨_, k', m, s', t', f1, f2, f3, f4⟩ := rb2 cb
  have hkk : k' = k := by omega
  subst hkk
  have hk := g1.2.2.2.2.1
  have hn := g1.2.2.2.2.2.2.2.1
  have hm := f1.2.2.2.2.2.2.2.1
  have m1 : upd L 3 (nI (rkN (σ.2.2 28) a) - nI (rkN (σ.2.2 28) b)) 1 = nI a := by rw [upd_other (by decide)]; exact h1
  have m2 : upd L 3 (nI (rkN (σ.2.2 28) a) - nI (rkN (σ.2.2 28) b)) 2 = nI b := by rw [upd_other (by decide)]; exact h2
  generalize upd L 3 (nI (rkN (σ.2.2 28) a) - nI (rkN (σ.2.2 28) b)) = N at m1 m2
  refine Tm_suc (fun k => by rw [xC_0]) ?_
  show Tm (fun k => if ¬ (N 1 < 0 ∨ 1740000 ≤ (N 1).toNatClampNeg) then (if σ.2.2 28 (N 1).toNatClampNeg = 2 then ob (x_compareWholes k 0 (upd (upd (fun _ => 0) 1 (N 1)) 2 (N 2)) σ) (fun r3 => some (r3.1, r3.2)) else x_GC k d 0 3 (upd N 4 (σ.2.2 28 (N 1).toNatClampNeg)) σ) else none) _
  rw [m1, m2]
  refine Tm_chk (n_in (by omega) (by omega)) ?_
  rw [n_cl (p := a) (by omega), g1.1]
  refine Tm_ite (fun c => ?_) (fun c => ?_)
  · have c := (n_eq (q := 2) (by omega) (by decide)).mp c
    refine Tm_ob (s_compareWholes hS g1.2.1 f1.2.1 hn hm (by omega) (by omega) ((g1.2.2.2.2.2.2.2.2.1 c).1) ((f1.2.2.2.2.2.2.2.2.1 c).1) (by rw [upd_other (by decide), upd_same]) upd_same) (fun r3 hr3 => ?_)
    exact Tm_some hr3
  -- rows
  have l4 : ∀ (j i : Nat) (M : Nat → Int32), j + i = n → M 1 = nI a → M 2 = nI b → M 4 = nI k' → M 5 = nI n → M 6 = nI m → M 7 = nI i → Tm (fun f => x_GC f d 0 4 M σ) (fun r => r.2 = σ) := by
    intro j
    induction j with
    | zero =>
      intro i M hi q1 q2 q4 q5 q6 q7
      refine Tm_suc (fun k => by rw [xC_0]) ?_
      show Tm (fun f => if M 5 ≤ M 7 then x_GC f d 0 9 M σ else (if M 6 ≤ M 7 then x_GC f d 0 9 M σ else (if M 4 = 5 then x_GC f d 0 5 M σ else (if M 4 = 6 then x_GC f d 0 5 M σ else x_GC f d 0 6 M σ)))) _
      rw [q5, q7]
      refine Tm_ite (fun _ => ?_) (fun z => absurd ((n_le (by omega) (by omega)).mpr (by omega)) z)
      refine Tm_suc (fun k => by rw [xC_0]) ?_
      exact Tm_some rfl
    | succ j ih =>
      intro i M hi q1 q2 q4 q5 q6 q7
      have nx : ∀ x : Int32, Tm (fun f => x_GC f d 0 7 (upd M 100 x) σ) (fun r => r.2 = σ) := fun x => by
        refine Tm_suc (fun k => by rw [xC_0]) ?_
        show Tm (fun f => if x = 0 then x_GC f d 0 8 (upd (upd M 100 x) 8 x) σ else some (x, σ)) _
        refine Tm_ite (fun _ => ?_) (fun _ => Tm_some rfl)
        refine Tm_suc (fun k => by rw [xC_0]) ?_
        show Tm (fun f => x_GC f d 0 4 (upd (upd (upd M 100 x) 8 x) 7 (M 7 + 1)) σ) _
        refine ih (i + 1) _ (by omega) ?_ ?_ ?_ ?_ ?_ ?_
        · rw [upd_other (by decide), upd_other (by decide), upd_other (by decide)]; exact q1
        · rw [upd_other (by decide), upd_other (by decide), upd_other (by decide)]; exact q2
        · rw [upd_other (by decide), upd_other (by decide), upd_other (by decide)]; exact q4
        · rw [upd_other (by decide), upd_other (by decide), upd_other (by decide)]; exact q5
        · rw [upd_other (by decide), upd_other (by decide), upd_other (by decide)]; exact q6
        · rw [upd_same, q7, n_add1]
      refine Tm_suc (fun k => by rw [xC_0]) ?_
      show Tm (fun f => if M 5 ≤ M 7 then x_GC f d 0 9 M σ else (if M 6 ≤ M 7 then x_GC f d 0 9 M σ else (if M 4 = 5 then x_GC f d 0 5 M σ else (if M 4 = 6 then x_GC f d 0 5 M σ else x_GC f d 0 6 M σ)))) _
      rw [q5, q6, q7, q4]
      refine Tm_ite (fun z => absurd ((n_le (by omega) (by omega)).mp z) (by omega)) (fun _ => ?_)
      refine Tm_ite (fun _ => ?_) (fun z => ?_)
      · refine Tm_suc (fun k => by rw [xC_0]) ?_
        exact Tm_some rfl
      have hi2 : i < m := by
        by_cases w : m ≤ i
        · exact absurd ((n_le (by omega) (by omega)).mpr w) z
        · omega
      have row : 5 ≤ k' → Tm (fun f => x_GC f d 0 5 M σ) (fun r => r.2 = σ) := fun h5 => by
        obtain ⟨x, x1, x2, x3⟩ := (g1.2.2.2.2.2.2.2.2.2.2.2 h5).2 i (by omega)
        obtain ⟨y, y1, y2, y3⟩ := (f1.2.2.2.2.2.2.2.2.2.2.2 h5).2 i hi2
        have ht : htN (σ.2.2 28) a = t := by
          unfold htN
          rw [if_neg ca, g1.2.2.2.1, n_cl (by have := g1.2.2.2.2.2.2.1; omega)]
        obtain ⟨e, he⟩ : ∃ e, d = e + 1 := ⟨d - 1, by omega⟩
        refine Tm_suc (fun k => by rw [xC_0]) ?_
        show Tm (fun f => if ¬ (M 1 + 4 + M 7 < 0 ∨ 1740000 ≤ (M 1 + 4 + M 7).toNatClampNeg) then (if ¬ (M 2 + 4 + M 7 < 0 ∨ 1740000 ≤ (M 2 + 4 + M 7).toNatClampNeg) then od d (fun e3 => ob (x_GC f e3 0 0 (upd (upd (fun _ => 0) 1 (σ.2.2 28 (M 1 + 4 + M 7).toNatClampNeg)) 2 (σ.2.2 28 (M 2 + 4 + M 7).toNatClampNeg)) σ) (fun r3 => x_GC f d 0 7 (upd M 100 r3.1) r3.2)) else none) else none) _
        rw [q1, q2, q7, show nI a + 4 = nI (a + 4) from n_add (q := 4) (by omega), show nI b + 4 = nI (b + 4) from n_add (q := 4) (by omega), n_add (by omega), n_add (by omega)]
        refine Tm_chk (n_in (by omega) (by omega)) ?_
        refine Tm_chk (n_in (by omega) (by omega)) ?_
        rw [n_cl (p := a + 4 + i) (by omega), n_cl (p := b + 4 + i) (by omega), x1, y1]
        have hc := hrec e he x y (upd (upd (fun _ => 0) 1 (nI x)) 2 (nI y)) x2 y2 (by omega) (by rw [upd_other (by decide), upd_same]) upd_same
        rw [he]
        show Tm (fun f => ob (x_GC f e 0 0 (upd (upd (fun _ => 0) 1 (nI x)) 2 (nI y)) σ) (fun r3 => x_GC f (e + 1) 0 7 (upd M 100 r3.1) r3.2)) _
        refine Tm_ob hc (fun r3 hr3 => ?_)
        rw [hr3, ← he]
        exact nx _
      refine Tm_ite (fun z => row (by have := (n_eq (q := 5) (by omega) (by decide)).mp z; omega)) (fun _ => ?_)
      refine Tm_ite (fun z => row (by have := (n_eq (q := 6) (by omega) (by decide)).mp z; omega)) (fun _ => ?_)
      refine Tm_suc (fun k => by rw [xC_0]) ?_
      show Tm (fun f => if ¬ (M 1 + 4 + M 7 < 0 ∨ 1740000 ≤ (M 1 + 4 + M 7).toNatClampNeg) then (if ¬ (M 2 + 4 + M 7 < 0 ∨ 1740000 ≤ (M 2 + 4 + M 7).toNatClampNeg) then x_GC f d 0 7 (upd M 100 (σ.2.2 28 (M 1 + 4 + M 7).toNatClampNeg - σ.2.2 28 (M 2 + 4 + M 7).toNatClampNeg)) σ else none) else none) _
      rw [q1, q2, q7, show nI a + 4 = nI (a + 4) from n_add (q := 4) (by omega), show nI b + 4 = nI (b + 4) from n_add (q := 4) (by omega), n_add (by omega), n_add (by omega)]
      refine Tm_chk (n_in (by omega) (by omega)) ?_
      refine Tm_chk (n_in (by omega) (by omega)) ?_
      exact nx _
  have w1 : upd N 4 (nI k') 1 = nI a := by rw [upd_other (by decide)]; exact m1
  have w2 : upd N 4 (nI k') 2 = nI b := by rw [upd_other (by decide)]; exact m2
  have w4 : upd N 4 (nI k') 4 = nI k' := upd_same
  generalize upd N 4 (nI k') = N2 at w1 w2 w4
  refine Tm_suc (fun k => by rw [xC_0]) ?_
  show Tm (fun f => if ¬ (N2 1 + 1 < 0 ∨ 1740000 ≤ (N2 1 + 1).toNatClampNeg) then (if ¬ (N2 2 + 1 < 0 ∨ 1740000 ≤ (N2 2 + 1).toNatClampNeg) then x_GC f d 0 4 (upd (upd (upd N2 5 (σ.2.2 28 (N2 1 + 1).toNatClampNeg)) 6 (σ.2.2 28 (N2 2 + 1).toNatClampNeg)) 7 0) σ else none) else none) _
  rw [w1, w2, n_add1, n_add1]
  refine Tm_chk (n_in (by omega) (by omega)) ?_
  refine Tm_chk (n_in (by omega) (by omega)) ?_
  rw [n_cl (p := a + 1) (by omega), n_cl (p := b + 1) (by omega), g1.2.1, f1.2.1]
  refine l4 n 0 _ (by omega) ?_ ?_ ?_ ?_ ?_ upd_same
  · rw [upd_other (by decide), upd_other (by decide), upd_other (by decide)]; exact w1
  · rw [upd_other (by decide), upd_other (by decide), upd_other (by decide)]; exact w2
  · rw [upd_other (by decide), upd_other (by decide), upd_other (by decide)]; exact w4
  · rw [upd_other (by decide), upd_other (by decide), upd_same]
  · rw [upd_other (by decide), upd_same]
theorem s_cmpd (hS : HS g l B h σ) : ∀ (d : Nat) (a b : Nat) (L : Nat → Int32), (a < 3 ∨ g a) → (b < 3 ∨ g b) → htN (σ.2.2 28) a ≤ d → L 1 = nI a → L 2 = nI b → Tm (fun k => x_GC k d 0 0 L σ) (fun r => r.2 = σ)
  | 0, a, b, L, ha, hb, hd, h1, h2 => s_cmp1 hS (fun e he => by omega) ha hb hd h1 h2
  | d + 1, a, b, L, ha, hb, hd, h1, h2 => s_cmp1 hS (fun e he => (Nat.succ.inj he) ▸ s_cmpd hS d) ha hb hd h1 h2
/-- two values are compared -/
theorem s_compareV (hS : HS g l B h σ) {a b : Nat} {L : Nat → Int32} (ha : a < 3 ∨ g a) (hb : b < 3 ∨ g b) (h1 : L 1 = nI a) (h2 : L 2 = nI b) : Tm (fun k => x_compare k 0 L σ) (fun r => r.2 = σ) := s_cmpd hS 40 a b L ha hb (by have := (szN_b hS ha).2.2; omega) h1 h2
end CMP
end JnS94
