/-! Reductions (reference). -/
/-- what a single operation leaves (with sweeps): w the work, XB + 6 * w what may live -/
def SO (t w XB : Nat) (g : Nat → Prop) (σ : MS) (r : Int32 × MS) : Prop := ∃ g' l' B' h' X' w' t', MI t' X' g' l' B' h' r.2 ∧ EO t g σ g' r.2 ∧ Vd g' r.1 ∧ ErB r.2 ∧ r.2.1 57 = nI w' ∧ w ≤ w' ∧ w' ≤ 70000 ∧ (r.2.1 59 = nI t' ∧ t ≤ t' ∧ t' ≤ t + 2000 ∧ (t' = t ∨ ¬ r.2.1 56 = 0)) ∧ (r.2.1 56 = 0 → X' ≤ XB + 6 * w' ∧ w' ≤ 60000)
/-- midway in a reduction -/
def RdX (t w XB n : Nat) (g : Nat → Prop) (σ τ : MS) (g1 : Nat → Prop) (l1 : List Nat) (B1 h1 X1 w1 : Nat) : Prop := MI (t + 2) X1 g1 l1 B1 h1 τ ∧ EO t g σ g1 τ ∧ (∃ v1, τ.2.2 29 t = nI v1 ∧ g1 v1 ∧ 5 ≤ kdN (τ.2.2 28) v1 ∧ τ.2.2 28 (v1 + 1) = nI n) ∧ τ.1 59 = nI (t + 2) ∧ ErB τ ∧ τ.1 57 = nI w1 ∧ w ≤ w1 ∧ w1 ≤ 70000 ∧ (τ.1 56 = 0 → X1 ≤ XB + 6 * w1 ∧ w1 ≤ 60000)
section RED
variable {g : Nat → Prop} {l : List Nat} {B h t w X XB n : Nat} {σ : MS}
theorem SO_of {W : Nat} {r : Int32 × MS} (hW : W ≤ 2000) (hM : MI t X g l B h σ) (h57 : σ.1 57 = nI w) (hw : w ≤ 60000) (hX : X ≤ XB + 6 * w) (hr : VQ g B h t W σ r) : SO t w XB g σ r := by
  obtain ⟨g', l', h', a1, a2, ⟨t', a3, a4, a5, a6, a6'⟩, a7, a8, a9⟩ := hr
  obtain ⟨k1, k2⟩ := MI_gr hM a1 a2
  by_cases e : r.2.1 56 = 0
  · have et : t' = t := a6.resolve_right (fun z => z e)
    subst et
    exact ⟨g', l', B, h', X, w, t', k1, k2, a9, a7, (a2.1 57 (by decide)).trans h57, Nat.le_refl _, by omega, ⟨a3, a4, by omega, a6⟩, fun _ => ⟨hX, hw⟩⟩
  · have k3 := MI_pl k1 a6'
    rw [show t + (t' - t) = t' by omega] at k3
    exact ⟨g', l', B, h', 870000, w, t', k3, k2, a9, a7, (a2.1 57 (by decide)).trans h57, Nat.le_refl _, by omega, ⟨a3, a4, by omega, a6⟩, fun z => absurd z e⟩
theorem RdX_op {τ υ : MS} {g1 g2 : Nat → Prop} {l1 l2 : List Nat} {B1 h1 h2 X1 w1 : Nat} (hQ : RtQ σ) (hR : RdX t w XB n g σ τ g1 l1 B1 h1 X1 w1) (a : HG g1 B1 h1 τ υ g2 l2 h2) (hF : FW (t + 2) τ υ) (h59 : υ.1 59 = nI (t + 2)) (hE : ErB υ) (he : ¬ τ.1 56 = 0 → ¬ υ.1 56 = 0) : RdX t w XB n g σ υ g2 l2 B1 h2 X1 w1 := by
  obtain ⟨r1, r2, ⟨v1, c1, c2, c3, c4⟩, r4, r5, r6, r7, r8, r9⟩ := hR
  obtain ⟨k1, k2⟩ := MI_gr r1 a hF
  obtain ⟨n', o1, o2, o3, o4, o5, o6, o7⟩ := ob_at r1.1 c2
  refine ⟨k1, EO_tr hQ r2 (EO_dn (by omega) k2), ⟨v1, (hF.2.2 t (by omega)).trans c1, a.2.1 v1 c2, ?_, ?_⟩, h59, hE, (hF.1 57 (by decide)).trans r6, r7, r8, fun z => ?_⟩
  · have : kdN (υ.2.2 28) v1 = kdN (τ.2.2 28) v1 := by
      unfold kdN
      rw [a.2.2.2 v1 (by omega) (by omega)]
    rw [this]; exact c3
  · rw [a.2.2.2 (v1 + 1) (by omega) (by omega)]; exact c4
  · refine r9 ?_
    by_cases e : τ.1 56 = 0
    · exact e
    · exact absurd z (he e)
/-- the end -/
theorem RdX_end {τ : MS} {g1 : Nat → Prop} {l1 : List Nat} {B1 h1 X1 w1 : Nat} (ht : t ≤ 176000) (hR : RdX t w XB n g σ τ g1 l1 B1 h1 X1 w1) {N : Nat → Int32} (n5 : N 5 = nI t) (hQ : RtQ σ) : Tm (fun k => x_reduce k 14 N τ) (SO t w XB g σ) := by
  obtain ⟨r1, r2, r3, r4, r5, r6, r7, r8, r9⟩ := hR
  have fin : ∀ x : Int32, Vd g1 x → SO t w XB g σ (x, mSc τ 59 (nI t)) := fun x hx => by
    refine ⟨g1, l1, B1, h1, X1, w1, t, MI_mo (MI_59 r1) (by omega), EO_tr hQ r2 (EO_c (MI_mo r1 (by omega)) rfl (fun j hj => upd_other (by omega))), hx, ErB_c rfl r5, r6, r7, r8, ⟨rfl, Nat.le_refl _, by omega, Or.inl rfl⟩, r9⟩
  refine Tm_suc (fun k => by rw [x_reduce]) ?_
  rw [n5]
  show Tm (fun k => x_reduce k 15 N (mSc τ 59 (nI t))) _
  refine Tm_suc (fun k => by rw [x_reduce]) ?_
  rw [n5, n_add1]
  refine Tm_ite (fun _ => ?_) (fun _ => ?_)
  · refine Tm_chk (n_in (by omega) (by omega)) ?_
    rw [n_cl (p := t + 1) (by omega)]
    obtain ⟨m, m1, m2, _⟩ := MI_at r1 (i := t + 1) (by omega)
    refine Tm_suc (fun k => by rw [x_reduce]) ?_
    exact Tm_some (fin _ ⟨m, m1, m2⟩)
  · refine Tm_suc (fun k => by rw [x_reduce]) ?_
    refine Tm_suc (fun k => by rw [x_reduce]) ?_
    exact Tm_some (fin _ Vd_0)
theorem s_red3 (hQ : RtQ σ) (ht : t ≤ 176000) (hn : n ≤ 3996) : ∀ (q i : Nat) (N : Nat → Int32) (τ : MS) (g1 : Nat → Prop) (l1 : List Nat) (B1 h1 X1 w1 : Nat), q + i = n → N 4 = nI n → N 5 = nI t → N 6 = nI i → RdX t w XB n g σ τ g1 l1 B1 h1 X1 w1 → Tm (fun k => x_reduce k 3 N τ) (SO t w XB g σ) := by
  intro q
  induction q with
  | zero =>
    intro i N τ g1 l1 B1 h1 X1 w1 hi n4 n5 n6 hR
    refine Tm_suc (fun k => by rw [x_reduce]) ?_
    rw [n4, n6]
    refine Tm_ite (fun _ => RdX_end ht hR n5 hQ) (fun w => absurd ((n_le (by omega) (by omega)).mpr (by omega)) w)
  | succ q ih =>
    intro i N τ g1 l1 B1 h1 X1 w1 hi n4 n5 n6 hR
    have hEnd := RdX_end ht hR n5 hQ
    refine Tm_suc (fun k => by rw [x_reduce]) ?_
    rw [n4, n6, n5]
    refine Tm_ite (fun _ => hEnd) (fun _ => ?_)
    refine Tm_ite (fun e56 => ?_) (fun _ => hEnd)
    obtain ⟨r1, r2, ⟨v1, c1, c2, c3, c4⟩, r4, r5, r6, r7, r8, r9⟩ := hR
    refine Tm_ob (MI_sw (T := 780000) r1 r4 (by omega) rfl (by decide)) (fun r hr => ?_)
    obtain ⟨g2, l2, B2, h2, a1, a2, a3, a4⟩ := hr
    -- the state behind the sweep
    have hS2 := a1.1
    have hc2 : ∃ v2, r.2.2.2 29 t = nI v2 ∧ g2 v2 ∧ 5 ≤ kdN (r.2.2.2 28) v2 ∧ r.2.2.2 28 (v2 + 1) = nI n := by
      obtain ⟨m, m', p1, p2, p3, p4, p5, p6, p7⟩ := a2.1 29 t (Or.inl ⟨rfl, by omega⟩)
      have hv1 := HS_vb r1.1 (Or.inr c2)
      have e : m = v1 := (n_eq (by omega) (by omega)).mp (p1.symm.trans c1)
      subst e
      have hk := VR_sz (EVb_VR p5)
      have k5 : 5 ≤ kdN (r.2.2.2 28) m' := by rw [hk.2.2]; exact c3
      have gm' : g2 m' := kdN_ge hS2 p4 (by omega)
      refine ⟨m', p3, gm', k5, ?_⟩
      rcases EVb_VR p5 with ⟨y1, y2⟩ | ⟨y1, y2, y3⟩
      · have := (HS_at r1.1 c2)
        obtain ⟨_, _, _, _, _, z, _⟩ := this
        omega
      · exact (y3 1 (by omega)).trans c4
    have hR2 : RdX t w XB n g σ r.2 g2 l2 B2 h2 X1 w1 := ⟨a1, EO_tr hQ r2 (EO_dn (by omega) a2), hc2, (a3 59 (by decide) (by decide)).trans r4, ErB_c (a3 56 (by decide) (by decide)) r5, (a3 57 (by decide) (by decide)).trans r6, r7, r8, fun _ => r9 e56⟩
    have d56 : r.2.1 56 = 0 := (a3 56 (by decide) (by decide)).trans e56
    obtain ⟨hX1, hw1⟩ := r9 e56
    obtain ⟨v2, f1, f2, f3, f4⟩ := hc2
    obtain ⟨n', o1, o2, o3, o4, o5, o6, o7⟩ := ob_at hS2 f2
    have en : n' = n := (n_eq (by omega) (by omega)).mp (o1.symm.trans f4)
    subst en
    obtain ⟨m, mm1, mm2⟩ := o7 f3 i (by omega)
    obtain ⟨b, bb1, bb2, bb3⟩ := MI_at a1 (i := t + 1) (by omega)
    have hb2 := HS_b hS2
    rw [n_add1]
    refine Tm_chk (n_in (by omega) (by omega)) ?_
    refine Tm_chk (n_in (by omega) (by omega)) ?_
    rw [n_cl (p := t) (by omega), n_cl (p := t + 1) (by omega), f1, show nI v2 + 4 = nI (v2 + 4) from n_add (q := 4) (by omega), n_add (by omega)]
    refine Tm_chk (n_in (by omega) (by omega)) ?_
    rw [n_cl (p := v2 + 4 + i) (by omega), mm1, bb1]
    -- what is put back
    have p12 : ∀ (M : Nat → Int32) (υ : MS) (g3 : Nat → Prop) (l3 : List Nat) (B3 h3 X3 w3 : Nat), M 4 = nI n' → M 5 = nI t → M 6 = nI i → RdX t w XB n' g σ (mAr υ 29 (t + 1) (M 7)) g3 l3 B3 h3 X3 w3 → Tm (fun k => x_reduce k 12 M υ) (SO t w XB g σ) := by
      intro M υ g3 l3 B3 h3 X3 w3 m4 m5 m6 hR3
      refine Tm_suc (fun k => by rw [x_reduce]) ?_
      rw [m5, n_add1]
      refine Tm_chk (n_in (by omega) (by omega)) ?_
      rw [n_cl (p := t + 1) (by omega)]
      show Tm (fun k => x_reduce k 13 M (mAr υ 29 (t + 1) (M 7))) _
      refine Tm_suc (fun k => by rw [x_reduce]) ?_
      exact ih (i + 1) _ _ g3 l3 B3 h3 X3 w3 (by omega) m4 m5 (by show M 6 + 1 = _; rw [m6, n_add1]) hR3
    have hP2 : VP g2 l2 B2 h2 (t + 2) r.2 := ⟨hS2, hR2.2.2.2.1, by omega, hR2.2.2.2.2.1⟩
    -- a sum, a product
    have b4 : ∀ M : Nat → Int32, M 4 = nI n' → M 5 = nI t → M 6 = nI i → M 7 = nI b → M 8 = nI m → Tm (fun k => x_reduce k 4 M r.2) (SO t w XB g σ) := by
      intro M m4 m5 m6 m7 m8
      refine Tm_suc (fun k => by rw [x_reduce]) ?_
      refine Tm_ob (s_operate hP2 bb2 mm2 (by exact m7) (by exact m8)) (fun s hs => ?_)
      obtain ⟨g3, l3, h3, d1, d2, d3, d4, d5, d6⟩ := hs
      have hR3 := RdX_op hQ hR2 d1 d2 d3 d4 d5
      obtain ⟨c, cc1, cc2⟩ := d6
      have h57 : s.2.1 57 = nI w1 := hR3.2.2.2.2.2.1
      refine Tm_ob (s_answer d1.1 cc2 h57 (by omega) (by exact cc1)) (fun u hu => ?_)
      obtain ⟨u1, u2⟩ := hu
      have hsz := szN_b d1.1 cc2
      have mono : MI (t + 1) X1 g3 l3 B2 h3 s.2 := MI_mo hR3.1 (by omega)
      have hset := MI_set mono cc2
      obtain ⟨s1, s2, ⟨v3, x1, x2, x3, x4⟩, s4, s5, s6, s7, s8, s9⟩ := hR3
      -- the state with the answer put back
      have mk : ∀ (υ : MS) (w3 : Nat), υ.2.2 = s.2.2.2 → (∀ j, j ≠ 56 → j ≠ 57 → υ.1 j = s.2.1 j) → ErB υ → υ.1 57 = nI w3 → w1 ≤ w3 → w3 ≤ 70000 → (υ.1 56 = 0 → X1 + 6 * szN (s.2.2.2 28) c ≤ XB + 6 * w3 ∧ w3 ≤ 60000) → RdX t w XB n' g σ (mAr υ 29 (t + 1) (nI c)) g3 l3 B2 h3 (X1 + 6 * szN (s.2.2.2 28) c) w3 := by
        intro υ w3 y1 y2 y3 y4 y5 y6 y7
        have ea : (mAr υ 29 (t + 1) (nI c)).2.2 = (mAr s.2 29 (t + 1) (nI c)).2.2 := by
          show updG υ.2.2 29 (upd (υ.2.2 29) (t + 1) (nI c)) = updG s.2.2.2 29 (upd (s.2.2.2 29) (t + 1) (nI c))
          rw [y1]
        refine ⟨MI_c hset (y2 54 (by decide) (by decide)) (y2 55 (by decide) (by decide)) (y2 63 (by decide) (by decide)) (y2 72 (by decide) (by decide)) ea, EO_tr hQ s2 ?_, ⟨v3, ?_, x2, ?_, ?_⟩, (y2 59 (by decide) (by decide)).trans s4, y3, y4, by omega, y6, y7⟩
        · have e0 : EO t g3 s.2 g3 (mAr s.2 29 (t + 1) (nI c)) := EO_set (by omega) (MI_mo s1 (by omega))
          refine ⟨fun a i z => ?_, fun a i z1 z2 => ?_, fun j hj => y2 j (by omega) (by omega)⟩
          · rw [ea]; exact e0.1 a i z
          · rw [ea]; exact e0.2.1 a i z1 z2
        · rw [mAr_s, upd_other (by omega), y1]; exact x1
        · rw [mAr_o (by decide), y1]; exact x3
        · rw [mAr_o (by decide), y1]; exact x4
      have u1 : u.1 = nI c := u1
      rcases u2 with ⟨z, e⟩ | ⟨z, hW⟩
      · refine p12 _ _ g3 l3 B2 h3 (X1 + 6 * szN (s.2.2.2 28) c) w1 m4 m5 m6 ?_
        show RdX t w XB n' g σ (mAr u.2 29 (t + 1) u.1) _ _ _ _ _ _
        rw [u1, e]
        exact mk s.2 w1 rfl (fun _ _ _ => rfl) s5 h57 (Nat.le_refl _) s8 (fun y => absurd y z)
      · refine p12 _ _ g3 l3 B2 h3 (X1 + 6 * szN (s.2.2.2 28) c) (w1 + szN (s.2.2.2 28) c) m4 m5 m6 ?_
        show RdX t w XB n' g σ (mAr u.2 29 (t + 1) u.1) _ _ _ _ _ _
        rw [u1]
        exact mk u.2 _ (WkO_a hW) (fun j q1 q2 => WkO_s hW q1 q2) (WkO_E hW s5) (WkO_57 hW) (by omega) (by omega) (fun y => ⟨by omega, (WkO_le hW y).1⟩)
    -- the larger, the smaller
    have q12 : ∀ (M : Nat → Int32) (υ : MS) (g3 : Nat → Prop) (l3 : List Nat) (h3 : Nat), RdX t w XB n' g σ υ g3 l3 B2 h3 X1 w1 → υ.2.2 29 t = nI v2 → υ.2.2 28 (v2 + 4 + i) = nI m → υ.2.2 29 (t + 1) = nI b → (∀ v, g2 v → g3 v) → M 4 = nI n' → M 5 = nI t → M 6 = nI i → (M 7 = nI b ∨ M 7 = nI m) → Tm (fun k => x_reduce k 12 M υ) (SO t w XB g σ) := by
      intro M υ g3 l3 h3 hR3 y1 y2 y3 hsub m4 m5 m6 m7
      refine p12 M υ g3 l3 B2 h3 X1 w1 m4 m5 m6 ?_
      obtain ⟨s1, s2, ⟨v3, x1, x2, x3, x4⟩, s4, s5, s6, s7, s8, s9⟩ := hR3
      have ev : v3 = v2 := (n_eq (by have := HS_vb s1.1 (Or.inr x2); omega) (by omega)).mp (x1.symm.trans y1)
      subst ev
      have hEO : EO t g σ g3 (mAr υ 29 (t + 1) (M 7)) := EO_tr hQ s2 (EO_set (by omega) (MI_mo s1 (by omega)))
      refine ⟨?_, hEO, ⟨v3, by rw [mAr_s, upd_other (by omega)]; exact x1, x2, by rw [mAr_o (by decide)]; exact x3, by rw [mAr_o (by decide)]; exact x4⟩, s4, ErB_c rfl s5, s6, s7, s8, s9⟩
      rcases m7 with m7 | m7
      · rw [m7]
        exact MI_c s1 rfl rfl rfl rfl (mAr_same y3)
      · rw [m7]
        refine MI_str (MI_mo s1 (by omega)) ?_
        have hv3 : RoS (t + 1) υ v3 := by
          obtain ⟨_, _, _, _, _, z, _⟩ := HS_at s1.1 x2
          exact ⟨by omega, HS_vb s1.1 (Or.inr x2), 29, t, Or.inl ⟨rfl, by omega⟩, x1⟩
        exact Rch_mem s1.1 (Rch_b hv3) x3 x2 x4 hn (by omega) y2 (mm2.imp id (hsub m))
    have b5 : ∀ M : Nat → Int32, M 4 = nI n' → M 5 = nI t → M 6 = nI i → M 7 = nI b → M 8 = nI m → Tm (fun k => x_reduce k 5 M r.2) (SO t w XB g σ) := by
      intro M m4 m5 m6 m7 m8
      -- behind the comparisons
      have bb : ∀ (υ : MS) (g3 : Nat → Prop) (l3 : List Nat) (h3 : Nat), RdX t w XB n' g σ υ g3 l3 B2 h3 X1 w1 → υ.2.2 29 t = nI v2 → υ.2.2 28 (v2 + 4 + i) = nI m → υ.2.2 29 (t + 1) = nI b → (∀ v, g2 v → g3 v) → ∀ O : Nat → Int32, O 4 = nI n' → O 5 = nI t → O 6 = nI i → O 7 = nI b → O 8 = nI m → Tm (fun k => x_reduce k 9 O υ) (SO t w XB g σ) ∧ Tm (fun k => x_reduce k 10 O υ) (SO t w XB g σ) := by
        intro υ g3 l3 h3 y0 y1 y2 y3 y4 O o4 o5 o6 o7 o8
        constructor
        · refine Tm_suc (fun k => by rw [x_reduce]) ?_
          refine Tm_suc (fun k => by rw [x_reduce]) ?_
          exact q12 _ _ g3 l3 h3 y0 y1 y2 y3 y4 o4 o5 o6 (Or.inr o8)
        · refine Tm_suc (fun k => by rw [x_reduce]) ?_
          refine Tm_suc (fun k => by rw [x_reduce]) ?_
          exact q12 _ _ g3 l3 h3 y0 y1 y2 y3 y4 o4 o5 o6 (Or.inl o7)
      refine Tm_suc (fun k => by rw [x_reduce]) ?_
      refine Tm_ob (s_operate hP2 bb2 mm2 (by exact m7) (by exact m8)) (fun s hs => ?_)
      obtain ⟨g3, l3, h3, d1, d2, d3, d4, d5, d6⟩ := hs
      have hR3 := RdX_op hQ hR2 d1 d2 d3 d4 d5
      have z1 : s.2.2.2 29 t = nI v2 := (d2.2.2 t (by omega)).trans f1
      have z2 : s.2.2.2 28 (v2 + 4 + i) = nI m := (d1.2.2.2 _ (by omega) (by omega)).trans mm1
      have z3 : s.2.2.2 29 (t + 1) = nI b := (d2.2.2 (t + 1) (by omega)).trans bb1
      have hbb := bb s.2 g3 l3 h3 hR3 z1 z2 z3 d1.2.1
      have b7 : ∀ O : Nat → Int32, O 4 = nI n' → O 5 = nI t → O 6 = nI i → O 7 = nI b → O 8 = nI m → Tm (fun k => x_reduce k 7 O s.2) (SO t w XB g σ) := by
        intro O o4 o5 o6 o7 o8
        refine Tm_suc (fun k => by rw [x_reduce]) ?_
        refine Tm_ite (fun _ => ?_) (fun _ => (hbb (upd O 10 (O 100)) o4 o5 o6 o7 o8).2)
        refine Tm_ite (fun _ => ?_) (fun _ => ?_)
        · have hP3 : VP g3 l3 B2 h3 (t + 2) s.2 := ⟨d1.1, d3, by omega, d4⟩
          refine Tm_suc (fun k => by rw [x_reduce]) ?_
          refine Tm_ob (s_operate hP3 (mm2.imp id (d1.2.1 m)) (bb2.imp id (d1.2.1 b)) (by exact o8) (by exact o7)) (fun s' hs' => ?_)
          obtain ⟨g4, l4, h4, e1, e2, e3, e4, e5, e6⟩ := hs'
          have hR4 := RdX_op hQ hR3 e1 e2 e3 e4 e5
          have hle := d1.2.2.1
          have hb4 := bb s'.2 g4 l4 h4 hR4 ((e2.2.2 t (by omega)).trans z1) ((e1.2.2.2 _ (by omega) (by omega)).trans z2) ((e2.2.2 (t + 1) (by omega)).trans z3) (fun v z => e1.2.1 v (d1.2.1 v z)) (upd O 10 (O 100)) o4 o5 o6 o7 o8
          exact Tm_ite (fun _ => hb4.1) (fun _ => hb4.2)
        · exact Tm_ite (fun _ => (hbb (upd O 10 (O 100)) o4 o5 o6 o7 o8).1) (fun _ => (hbb (upd O 10 (O 100)) o4 o5 o6 o7 o8).2)
      refine Tm_ite (fun _ => b7 _ m4 m5 m6 m7 m8) (fun _ => ?_)
      refine Tm_suc (fun k => by rw [x_reduce]) ?_
      exact b7 _ m4 m5 m6 m7 m8
    refine Tm_ite (fun _ => b4 _ n4 n5 n6 rfl rfl) (fun _ => ?_)
    exact Tm_ite (fun _ => b4 _ n4 n5 n6 rfl rfl) (fun _ => b5 _ n4 n5 n6 rfl rfl)
end RED
