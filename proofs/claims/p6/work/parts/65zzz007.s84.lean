/-! Params of the reference. -/
section PML
variable {T : Nat → Int32} {n : Nat} {o p : Nat}
/-- the ninth param: a fault -/
theorem pm_10 {E : En} {q v : Nat} {b : BT} {σ : MS} (h : PS T n E o q v b σ) (hp : b.2.1 ≤ 70000) : ∀ (m k : Nat) (N : Nat → Int32) (ρ : MS), m + k = E.2.1.length → N 5 = nI k → ρ.2 = σ.2 → (∀ j, ¬ (10 ≤ j ∧ j ≤ 12) → ρ.1 j = σ.1 j) → Tm (fun f => x_paramsOf f 10 N ρ) (fun r => r.2.2 = σ.2 ∧ (∀ j, ¬ (10 ≤ j ∧ j ≤ 12) → r.2.1 j = σ.1 j) ∧ ¬ r.2.1 10 = 0) := by
  have h0 := h
  obtain ⟨⟨⟨a1, a2⟩, a3, a4, a5, ⟨c1, c2, c3, c4, c5, c6⟩, a6⟩, ⟨d1, d2⟩, ⟨e1, e2, e3, e4, e5⟩, ⟨f1, f2, f3, f4, f5⟩, ⟨⟨g1, g2, g3⟩, ⟨g4, g5, g6⟩, ⟨g7, g8, g9⟩⟩, ⟨i1, i2, i3⟩⟩ := h
  have hE := tkE_b T n q c1
  have hrow := rows_mRow hp E.2.1 g3
  intro m
  induction m with
  | zero =>
    intro k N ρ hk hN h2 hs
    refine Tm_suc (fun k => by rw [x_paramsOf]) ?_
    rw [hs 38 (by decide), g1, hN]
    refine Tm_ite (fun _ => ?_) (fun z => absurd ((n_le (by omega) (by omega)).mpr (by omega)) z)
    refine Tm_suc (fun k => by rw [x_paramsOf]) ?_
    refine Tm_ob (s_fault _ ρ) (fun r hr => ?_)
    have hr : r = (0, mFlt ρ 8 (ρ.1 8)) := hr
    subst hr
    obtain ⟨k1, k2, k3⟩ := fl_s h2 hs 8 (ρ.1 8)
    refine Tm_mono (pm_b13 k3) (fun s hs => ?_)
    rw [hs]; exact ⟨k1, k2, k3⟩
  | succ m ih =>
    intro k N ρ hk hN h2 hs
    obtain ⟨pp, ll, r1, r2, r3⟩ := hrow k (by omega)
    have h22 : ρ.2.2 = σ.2.2 := by rw [h2]
    refine Tm_suc (fun k => by rw [x_paramsOf]) ?_
    rw [hs 38 (by decide), g1, hN]
    refine Tm_ite (fun z => absurd ((n_le (by omega) (by omega)).mp z) (by omega)) (fun _ => ?_)
    refine Tm_chk (n_in (by omega) (by omega)) ?_
    refine Tm_chk (n_in (by omega) (by omega)) ?_
    rw [n_cl (p := k) (by omega), h22, r1, r2]
    refine Tm_ob (s_isNamed (σ := ρ) (f := q) (e := tkE T n q) (p := pp) (l := ll) ((hs 8 (by decide)).trans c2) ((hs 9 (by decide)).trans c4) hE.1 (by omega) r3 _ rfl rfl) (fun r4 hr4 => ?_)
    obtain ⟨u, τ⟩ := r4
    have hr41 : τ = ρ := hr4.1
    subst hr41
    refine Tm_ite (fun _ => ?_) (fun _ => ?_)
    · refine Tm_suc (fun k => by rw [x_paramsOf]) ?_
      exact ih (k + 1) _ τ (by omega) (by rw [upd_same, hN, n_add1]) h2 hs
    · refine Tm_ob (s_fault _ τ) (fun r6 hr6 => ?_)
      have hr6 : r6 = (0, mFlt τ 4 (τ.1 8)) := hr6
      subst hr6
      obtain ⟨k1, k2, k3⟩ := fl_s h2 hs 4 (τ.1 8)
      refine Tm_suc (fun k => by rw [x_paramsOf]) ?_
      exact ih (k + 1) _ _ (by omega) (by rw [upd_same, hN, n_add1]) k1 k2
/-- a param is told: its mode, how many there are -/
theorem pm_14 {E1 : En} {c m q1 v1 : Nat} {b1 : BT} {ρ : MS} {N : Nat → Int32} {x : Option PV6} (h : PS T n E1 o q1 v1 b1 ρ) (hp41 : p < 41) (hc : c < 8) (n1 : N 1 = nI p) (n3 : N 3 = nI c) (n4 : N 4 = nI m)
    (H : ∀ (ρ' : MS) (N' : Nat → Int32), PS T n (sP E1 p (c + 1)) o q1 v1 b1 ρ' → FrA p ρ ρ' → (∀ i, i < c → ρ'.2.2 19 (8 * p + i) = ρ.2.2 19 (8 * p + i)) → ρ'.2.2 19 (8 * p + c) = nI m → N' 1 = nI p → N' 2 = N 2 → N' 3 = nI (c + 1) → Tm (fun k => x_paramsOf k 1 N' ρ') (PoA T n o p ρ' x)) : Tm (fun k => x_paramsOf k 14 N ρ) (PoA T n o p ρ x) := by
  refine Tm_suc (fun k => by rw [x_paramsOf]) ?_
  refine Tm_ite (fun _ => ?_) (fun z => absurd (PS_ok h) z)
  rw [n1, n3, n4, n_mul8 (by omega) (by omega)]
  refine Tm_chk (n_in (by omega) (by omega)) ?_
  rw [n_cl (p := 8 * p + c) (by omega)]
  show Tm (fun k => x_paramsOf k 15 N (mAr ρ 19 (8 * p + c) (nI m))) _
  refine Tm_suc (fun k => by rw [x_paramsOf]) ?_
  rw [n1, n3, n_add1]
  refine Tm_chk (n_in (by omega) (by omega)) ?_
  rw [n_cl (p := p) (by omega)]
  show Tm (fun k => x_paramsOf k 16 (upd N 3 (nI (c + 1))) (mAr (mAr ρ 19 (8 * p + c) (nI m)) 18 p (nI (c + 1)))) _
  refine Tm_suc (fun k => by rw [x_paramsOf]) ?_
  have hF : FrA p ρ (mAr (mAr ρ 19 (8 * p + c) (nI m)) 18 p (nI (c + 1))) := FrA_tr (FrA_19 (by omega) _) (FrA_18 (by omega))
  have h19 : (mAr (mAr ρ 19 (8 * p + c) (nI m)) 18 p (nI (c + 1))).2.2 19 = upd (ρ.2.2 19) (8 * p + c) (nI m) := rfl
  refine Tm_mono (H _ _ (PS_par (PS_ar h (Or.inr rfl)) (by omega)) hF (fun i hi => ?_) ?_ ?_ ?_ upd_same) (fun s hs => PoA_tr hF hs)
  · rw [h19, upd_other (by omega)]
  · rw [h19, upd_same]
  · rw [upd_other (by decide)]; exact n1
  · rw [upd_other (by decide)]
theorem p_pm {pr : Bool} (hp41 : p < 41) : ∀ (f : Nat) (E : En) (c : Nat) (md : Nat → Nat) (q v : Nat) (b : BT) (x : Option PV6), GPm T n pr p f E c md q v b = some x → ∀ (σ : MS) (L : Nat → Int32), PS T n E o q v b σ → b.2.1 + (n - q) ≤ 70000 → c ≤ 8 → (∀ i, i < c → σ.2.2 19 (8 * p + i) = nI (md i) ∧ md i ≤ 2) → L 1 = nI p → (L 2 = 0 ↔ pr = false) → L 3 = nI c → E.2.2.2.1 = p + 1 → Tm (fun k => x_paramsOf k 1 L σ) (PoA T n o p σ x)
  | 0, E, c, md, q, v, b, x, hG, σ, L, h, hp, hc, hm, l1, l2, l3, hw => by cases hG
  | f + 1, E, c, md, q, v, b, x, hG, σ, L, h, hp, hc, hm, l1, l2, l3, hw => by
    have ih := p_pm (pr := pr) hp41 f
    rw [GPm] at hG
    -- at a name
    have itJ : ∀ (m q1 : Nat) (ρ : MS) (N : Nat → Int32), m ≤ 2 → gPJ T n E c m q1 v b (fun m r => GPm T n pr p f (sP r.2.1 p (c + 1)) (c + 1) (updN md c m) r.1 r.2.2.1 r.2.2.2) = some x → PS T n E o q1 v b ρ → b.2.1 + (n - q1) ≤ 70000 → (∀ i, i < c → ρ.2.2 19 (8 * p + i) = nI (md i) ∧ md i ≤ 2) → N 1 = nI p → (N 2 = 0 ↔ pr = false) → N 3 = nI c → N 4 = nI m → Tm (fun k => x_paramsOf k 9 N ρ) (PoA T n o p ρ x) := by
      intro m q1 ρ N hm2 hJ hS hp1 hmd n1 n2 n3 n4
      have hN := tkN_b T n q1 (PS_q hS).1
      have hEb := tkE_b T n q1 (PS_q hS).1
      unfold gPJ at hJ
      refine Tm_suc (fun k => by rw [x_paramsOf]) ?_
      refine Tm_ob (v_wantName (w := p + 1) hS _) (fun r hr => ?_)
      rcases hr with ⟨x1, x2, x3⟩ | ⟨x1, x2⟩
      · have hx : x = none := by
          by_cases c8 : c = 8
          · rw [if_pos c8] at hJ; exact (Option.some.inj hJ).symm
          · rw [if_neg c8] at hJ
            rcases gTl_any hJ with ⟨_, hx⟩ | ⟨y, _⟩
            · exact hx
            · exact absurd y.1.1 x1
        subst hx
        refine Tm_ite (fun z => absurd z x2.1) (fun _ => ?_)
        exact PoA_b x2 (FrA_of x3) (pm_b13 x2.1)
      · rw [x2]
        refine Tm_ite (fun _ => ?_) (fun z => absurd (PS_ok hS) z)
        rw [n3]
        by_cases c8 : c = 8
        · rw [if_pos c8] at hJ
          obtain rfl := Option.some.inj hJ
          refine Tm_ite (fun _ => ?_) (fun z => absurd (by rw [c8]; rfl) z)
          refine Tm_mono (pm_10 hS (by omega) _ 0 _ ρ rfl upd_same rfl (fun _ _ => rfl)) (fun s hs => ?_)
          refine ⟨⟨b.1, hs.2.2, (hs.2.1 22 (by decide)).trans (PS_m hS)⟩, FrA_of (FrV_s2 (fun j hj => hs.2.1 j (by omega)) hs.1)⟩
        · rw [if_neg c8] at hJ
          refine Tm_ite (fun z => absurd ((n_eq (q := 8) (by omega) (by decide)).mp z) c8) (fun _ => ?_)
          refine Tm_suc (fun k => by rw [x_paramsOf]) ?_
          refine Tm_ite (fun _ => ?_) (fun z => absurd (PS_ok hS) z)
          refine Tm_ob (p_tellLocal hS hp1 upd_same) (fun r3 hr3 => ?_)
          obtain ⟨hV3, hr3⟩ := hr3
          rw [hw] at hV3
          rcases hr3 with ⟨y, hB⟩ | ⟨y, hS3⟩
          · have hx : x = none := by
              rcases gTl_any hJ with ⟨_, hx⟩ | ⟨u, _⟩
              · exact hx
              · exact absurd u y
            subst hx
            exact PoA_b hB (FrA_of hV3) (pm_b14 hB.1)
          · rcases gTl_any hJ with ⟨u, _⟩ | ⟨_, hx⟩
            · exact absurd y u
            · refine Tm_mono (pm_14 hS3 hp41 (by omega) n1 n3 n4 (fun ρ' N' hS4 hF4 hk hk2 m1 m2 m3 => ?_)) (fun s hs => PoA_tr (FrA_of hV3) hs)
              refine ih _ _ _ _ _ _ _ hx ρ' N' hS4 ?_ (by omega) (fun i hi => ?_) m1 (by rw [m2]; exact n2) m3 hw
              · show b.2.1 + (tkE T n q1 - q1) + (n - tkN T n q1) ≤ 70000
                omega
              · by_cases z : i = c
                · subst z; rw [hk2, updN_s]; exact ⟨rfl, hm2⟩
                · rw [hk i (by omega), updN_o z, hV3.2.2.1 19 (by decide)]; exact hmd i (by omega)
    -- at the beginning of a param
    have itI : ∀ (q1 : Nat) (ρ : MS) (N : Nat → Int32), gPI T n pr E c q1 v b (fun m r => GPm T n pr p f (sP r.2.1 p (c + 1)) (c + 1) (updN md c m) r.1 r.2.2.1 r.2.2.2) = some x → PS T n E o q1 v b ρ → b.2.1 + (n - q1) ≤ 70000 → (∀ i, i < c → ρ.2.2 19 (8 * p + i) = nI (md i) ∧ md i ≤ 2) → N 1 = nI p → (N 2 = 0 ↔ pr = false) → N 3 = nI c → Tm (fun k => x_paramsOf k 4 N ρ) (PoA T n o p ρ x) := by
      intro q1 ρ N hI hS hp1 hmd n1 n2 n3
      have hN := tkN_b T n q1 (PS_q hS).1
      unfold gPI at hI
      have u1 : ∀ z : Int32, upd N 4 z 1 = nI p := fun z => by rw [upd_other (by decide)]; exact n1
      have u2 : ∀ z : Int32, (upd N 4 z 2 = 0 ↔ pr = false) := fun z => by rw [upd_other (by decide)]; exact n2
      have u3 : ∀ z : Int32, upd N 4 z 3 = nI c := fun z => by rw [upd_other (by decide)]; exact n3
      refine Tm_suc (fun k => by rw [x_paramsOf]) ?_
      refine Tm_ite (fun _ => ?_) (fun z => absurd (PS_ok hS) z)
      refine Tm_ite (fun z => ?_) (fun z => ?_)
      · rw [if_neg (fun y => by rw [n2.mp z] at y; exact absurd y.1 (by decide))] at hI
        exact itJ 0 q1 ρ _ (by decide) hI hS hp1 hmd (u1 _) (u2 _) (u3 _) upd_same
      · have hpr : pr = true := by
          cases pr with
          | false => exact absurd (n2.mpr rfl) z
          | true => rfl
        -- none of the words
        have no : ¬ (tkK T n q1 = 35 ∨ tkK T n q1 = 36 ∨ tkK T n q1 = 37) → Tm (fun k => x_paramsOf k 9 (upd N 4 0) ρ) (PoA T n o p ρ x) := fun y => by
          rw [if_neg (fun w => y w.2)] at hI
          exact itJ 0 q1 ρ _ (by decide) hI hS hp1 hmd (u1 _) (u2 _) (u3 _) upd_same
        -- one of them
        have yes : (tkK T n q1 = 35 ∨ tkK T n q1 = 36 ∨ tkK T n q1 = 37) → Tm (fun k => x_paramsOf k 5 (upd N 4 0) ρ) (PoA T n o p ρ x) := fun y => by
          rw [if_pos ⟨hpr, y⟩] at hI
          have hw : ρ.1 7 = nI (tkK T n q1 - 32) := (cur_what (PS_cur hS)).2.1 (by omega)
          have l8 : ∀ M : Nat → Int32, M 1 = nI p → (M 2 = 0 ↔ pr = false) → M 3 = nI c → M 100 = nI (tkK T n q1 - 35) → Tm (fun k => x_paramsOf k 8 M ρ) (PoA T n o p ρ x) := by
            intro M m1 m2 m3 m4
            refine Tm_suc (fun k => by rw [x_paramsOf]) ?_
            refine Tm_ob (v_take (w := p + 1) hS _) (fun r hr => ?_)
            rcases pT_any hI with ⟨z, rfl⟩ | ⟨z, hx⟩
            · rcases hr.2 with ⟨_, hB⟩ | ⟨y, _⟩
              · exact PoA_b hB (FrA_of hr.1) (pm_b9 hB.1)
              · exact absurd z y
            · rcases hr.2 with ⟨y, _⟩ | ⟨_, hS2⟩
              · exact absurd y z
              · refine Tm_mono (itJ (tkK T n q1 - 35) _ r.2 _ (by omega) hx hS2 (by omega) (fun i hi => ?_) ?_ ?_ ?_ ?_) (fun s hs => PoA_tr (FrA_of hr.1) hs)
                · rw [hr.1.2.2.1 19 (by decide)]; exact hmd i hi
                · rw [upd_other (by decide)]; exact m1
                · rw [upd_other (by decide)]; exact m2
                · rw [upd_other (by decide)]; exact m3
                · rw [upd_same]; exact m4
          have v1 : ∀ z : Int32, upd (upd N 4 0) 100 z 1 = nI p := fun z => by rw [upd_other (by decide)]; exact u1 _
          have v2 : ∀ z : Int32, (upd (upd N 4 0) 100 z 2 = 0 ↔ pr = false) := fun z => by rw [upd_other (by decide)]; exact u2 _
          have v3 : ∀ z : Int32, upd (upd N 4 0) 100 z 3 = nI c := fun z => by rw [upd_other (by decide)]; exact u3 _
          refine Tm_suc (fun k => by rw [x_paramsOf]) ?_
          rw [hw]
          refine Tm_ite (fun z => ?_) (fun z => ?_)
          · have z := (n_eq (q := 4) (by omega) (by decide)).mp z
            refine l8 _ (v1 _) (v2 _) (v3 _) (by rw [upd_same, show tkK T n q1 - 35 = 1 by omega]; rfl)
          · refine Tm_suc (fun k => by rw [x_paramsOf]) ?_
            rw [hw]
            refine Tm_ite (fun z2 => ?_) (fun z2 => ?_)
            · have z2 := (n_eq (q := 5) (by omega) (by decide)).mp z2
              refine l8 _ (v1 _) (v2 _) (v3 _) (by rw [upd_same, show tkK T n q1 - 35 = 2 by omega]; rfl)
            · refine Tm_suc (fun k => by rw [x_paramsOf]) ?_
              have z3 : ¬ tkK T n q1 - 32 = 4 := fun w => z (by rw [w]; rfl)
              have z4 : ¬ tkK T n q1 - 32 = 5 := fun w => z2 (by rw [w]; rfl)
              refine l8 _ (v1 _) (v2 _) (v3 _) (by rw [upd_same, show tkK T n q1 - 35 = 0 by omega]; rfl)
        refine Tm_ob (p_word hS (s := 3) (by decide) upd_same) (fun r hr => ?_)
        obtain ⟨a, τ⟩ := r
        obtain ⟨rfl, hr⟩ := hr
        refine Tm_ite (fun y => ?_) (fun y => yes (Or.inl (hr.mp y)))
        refine Tm_ob (p_word hS (s := 4) (by decide) upd_same) (fun r hr2 => ?_)
        obtain ⟨a2, τ2⟩ := r
        obtain ⟨rfl, hr2⟩ := hr2
        refine Tm_ite (fun y2 => ?_) (fun y2 => yes (Or.inr (Or.inl (hr2.mp y2))))
        refine Tm_ob (p_word hS (s := 5) (by decide) upd_same) (fun r hr3 => ?_)
        obtain ⟨a3, τ3⟩ := r
        obtain ⟨rfl, hr3⟩ := hr3
        refine Tm_ite (fun y3 => ?_) (fun y3 => yes (Or.inr (Or.inr (hr3.mp y3))))
        refine no (fun w => ?_)
        rcases w with w | w | w
        · exact hr.mpr w y
        · exact hr2.mpr w y2
        · exact hr3.mpr w y3
    -- behind the last one
    have l17 : (if tkK T n q = 7 then some (some (q, E, c, md, v, b)) else some none) = some x → Tm (fun k => x_paramsOf k 17 L σ) (PoA T n o p σ x) := fun hx => by
      refine Tm_suc (fun k => by rw [x_paramsOf]) ?_
      refine Tm_ite (fun _ => ?_) (fun z => absurd (PS_ok h) z)
      refine Tm_ob (p_sign h (s := 7) (by decide) (by decide) upd_same) (fun r hr => ?_)
      obtain ⟨a, τ⟩ := r
      obtain ⟨rfl, hr⟩ := hr
      refine Tm_ite (fun y => ?_) (fun y => ?_)
      · rw [if_neg (fun w => hr.mpr w y)] at hx
        obtain rfl := Option.some.inj hx
        refine Tm_ob (s_cannot _ τ) (fun r hr => ?_)
        subst hr
        refine Tm_suc (fun k => by rw [x_paramsOf]) ?_
        exact Tm_some ⟨⟨_, (flt_b (M := 0) (P := 0) (w := 0) (PS_ok h) (PS_m h) 2 (τ.1 8)).1⟩, FrA_of (FrV_flt _ _)⟩
      · rw [if_pos (hr.mp y)] at hx
        obtain rfl := Option.some.inj hx
        refine Tm_suc (fun k => by rw [x_paramsOf]) ?_
        exact Tm_some ⟨h, FrA_rf, hc, hm⟩
    refine Tm_suc (fun k => by rw [x_paramsOf]) ?_
    refine Tm_ite (fun _ => ?_) (fun z => absurd (PS_ok h) z)
    rw [l3]
    by_cases c0 : c = 0
    · rw [if_pos c0] at hG
      refine Tm_ite (fun z => absurd ((n_lt (p := 0) (by decide) (by omega)).mp z) (by omega)) (fun _ => ?_)
      refine Tm_ob (p_sign h (s := 7) (by decide) (by decide) upd_same) (fun r hr => ?_)
      obtain ⟨a, τ⟩ := r
      obtain ⟨rfl, hr⟩ := hr
      refine Tm_ite (fun y => ?_) (fun y => ?_)
      · rw [if_neg (fun w => hr.mpr w y)] at hG
        refine Tm_suc (fun k => by rw [x_paramsOf]) ?_
        rw [l3]
        refine Tm_ite (fun _ => ?_) (fun z => absurd ((n_eq0 (by omega)).mpr c0) z)
        refine Tm_suc (fun k => by rw [x_paramsOf]) ?_
        rw [l3]
        refine Tm_ite (fun _ => ?_) (fun z => absurd ((n_le0 (by omega)).mpr c0) z)
        exact itI q τ L hG h hp hm l1 l2 l3
      · rw [if_pos (hr.mp y)] at hG
        exact l17 (by rw [if_pos (hr.mp y)]; exact hG)
    · rw [if_neg c0] at hG
      refine Tm_ite (fun _ => ?_) (fun z => absurd ((n_lt (p := 0) (by decide) (by omega)).mpr (by omega)) z)
      refine Tm_suc (fun k => by rw [x_paramsOf]) ?_
      rw [l3]
      refine Tm_ite (fun z => absurd ((n_eq0 (by omega)).mp z) c0) (fun _ => ?_)
      refine Tm_ob (p_sign h (s := 12) (by decide) (by decide) upd_same) (fun r hr => ?_)
      obtain ⟨a, τ⟩ := r
      obtain ⟨rfl, hr⟩ := hr
      refine Tm_ite (fun y => ?_) (fun y => ?_)
      · rw [if_neg (fun w => hr.mpr w y)] at hG
        exact l17 hG
      · rw [if_pos (hr.mp y)] at hG
        refine Tm_suc (fun k => by rw [x_paramsOf]) ?_
        rw [l3]
        refine Tm_ite (fun z => absurd ((n_le0 (by omega)).mp z) c0) (fun _ => ?_)
        have hN := tkN_b T n q (PS_q h).1
        refine Tm_ob (v_take (w := p + 1) h _) (fun r hr => ?_)
        rcases pT_any hG with ⟨z, rfl⟩ | ⟨z, hx⟩
        · rcases hr.2 with ⟨_, hB⟩ | ⟨y, _⟩
          · exact PoA_b hB (FrA_of hr.1) (pm_b4 hB.1)
          · exact absurd z y
        · rcases hr.2 with ⟨y, _⟩ | ⟨_, hS2⟩
          · exact absurd y z
          · exact Tm_mono (itI _ r.2 L hx hS2 (by omega) (fun i hi => by rw [hr.1.2.2.1 19 (by decide)]; exact hm i hi) l1 l2 l3) (fun s hs => PoA_tr (FrA_of hr.1) hs)
end PML
