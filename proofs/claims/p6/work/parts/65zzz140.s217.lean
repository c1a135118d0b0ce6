/-! Evaluation on both sides (reference): a byte of a string is bound; the state behind it. -/
section LEA
variable {T : Nat → Nat → Int32} {FN : Nat → Nat → Prop} {O r K d t u w XC : Nat} {lc : Nat → Prop} {σ σ1 σ2 τ τ1 τ2 ρ : MS} {g : Nat → Prop} {l : List Nat} {B h X a i : Nat}
theorem RtP_bd {x : Int32} (hp : PlV a i) : (∀ b j, RtP t (mAr σ a i x) b j ↔ RtP t σ b j) ∧ (RtQ σ → RtQ (mAr σ a i x)) := by
  obtain ⟨n1, n2, n3, n4, n5, n6, n7⟩ := PlV_n hp
  have r1 : (mAr σ a i x).2.2 30 1 = σ.2.2 30 1 := by
    by_cases e : a = 30
    · subst e; rw [mAr_s, upd_other (fun c => (n7 rfl).1 c.symm)]
    · rw [mAr_o (fun c => e c.symm)]
  have r3 : (mAr σ a i x).2.2 30 3 = σ.2.2 30 3 := by
    by_cases e : a = 30
    · subst e; rw [mAr_s, upd_other (fun c => (n7 rfl).2 c.symm)]
    · rw [mAr_o (fun c => e c.symm)]
  have r31 : (mAr σ a i x).2.2 31 = σ.2.2 31 := mAr_o (fun c => n3 c.symm)
  exact ⟨RtP_b rfl rfl r1 r3 r31, fun hQ => RtQ_b (σ := σ) rfl rfl r1 r3 r31 hQ⟩
theorem mAr_v {x : Int32} {b j : Nat} (e : ¬ (b = a ∧ j = i)) : (mAr σ a i x).2.2 b j = σ.2.2 b j := by
  by_cases eb : b = a
  · subst eb; rw [mAr_s, upd_other (fun c => e ⟨rfl, c⟩)]
  · rw [mAr_o eb]
/-- one side: an object without members, of five cells, is bound -/
theorem MI_bdL {m : Nat} (hM : MI t X g l B h σ) (hp : PlV a i) (gm : g m) (hk : ¬ (σ.2.2 28 m = nI 5 ∨ σ.2.2 28 m = nI 6)) (hn : σ.2.2 28 (m + 1) = nI 1) : MI t (X + 5) g l B h (mAr σ a i (nI m)) := by
  obtain ⟨n1, n2, n3, n4, n5, n6, n7⟩ := PlV_n hp
  obtain ⟨rt, rq⟩ := RtP_bd (t := t) (σ := σ) (x := nI m) hp
  obtain ⟨m1, m2, m3, m4⟩ := hM
  have e28 : (mAr σ a i (nI m)).2.2 28 = σ.2.2 28 := mAr_o (fun c => n1 c.symm)
  have bm := HS_vb m1 (Or.inr gm)
  refine ⟨HS_c m1 rfl rfl e28, rq m2, fun b j z => ?_, fun N => ?_⟩
  · by_cases e : b = a ∧ j = i
    · obtain ⟨e1, e2⟩ := e
      subst e1
      subst e2
      rw [mAr_s, upd_same]; exact ⟨m, rfl, Or.inr gm⟩
    · rw [mAr_v e]; exact m3 b j ((rt b j).mp z)
  · rw [e28]
    have sub : ∀ v, Rch (σ.2.2 28) (RoS t (mAr σ a i (nI m))) v → Rch (σ.2.2 28) (RoS t σ) v ∨ v = m := fun v hv => by
      refine hv (fun v => Rch (σ.2.2 28) (RoS t σ) v ∨ v = m) (fun u hu => ?_) (fun u n j q ih k1 k2 k3 k4 k5 k6 k7 => ?_)
      · obtain ⟨u1, u2, b, j, hR, e⟩ := hu
        by_cases c : b = a ∧ j = i
        · obtain ⟨e1, e2⟩ := c
          subst e1
          subst e2
          rw [mAr_s, upd_same] at e
          exact Or.inr ((n_eq (by omega) (by omega)).mp e).symm
        · rw [mAr_v c] at e
          exact Or.inl (Rch_b ⟨u1, u2, b, j, (rt b j).mp hR, e⟩)
      · rcases ih with ih | ih
        · exact Or.inl (Rch_s ih k1 k2 k3 k4 k5 k6 k7)
        · rw [ih] at k1; exact absurd k1 hk
    have s1 := lvN_le (H := σ.2.2 28) (H' := σ.2.2 28) (S := Rch (σ.2.2 28) (RoS t (mAr σ a i (nI m)))) (T := fun v => Rch (σ.2.2 28) (RoS t σ) v ∨ v = m) (fun v hv => ⟨sub v hv, rfl⟩) N
    have s2 := lvN_or (H := σ.2.2 28) (S := Rch (σ.2.2 28) (RoS t σ)) (T := fun v => v = m) N
    have s3 := (lvN_one (H := σ.2.2 28) (v := m) N).1
    rw [hn, n_cl (p := 1) (by decide)] at s3
    have s4 := m4 N
    omega
theorem EI_bdG {x y : Int32} {g1 g2 : Nat → Prop} {l1 l2 : List Nat} {B1 h1 X1 B2 h2 X2 Y1 Y2 : Nat} (hX : EIx t w XC σ1 σ2 g1 l1 B1 h1 X1 g2 l2 B2 h2 X2) (hp : PlV a i) (k1 : MI t Y1 g1 l1 B1 h1 (mAr σ1 a i x)) (k2 : MI t Y2 g2 l2 B2 h2 (mAr σ2 a i y)) (vc : VC g1 g2 (σ1.2.2 28) (σ2.2.2 28) x y) (b1 : Y1 ≤ XC + 6 * w) (b2 : Y2 ≤ XC + 6 * w) : EI t w XC (mAr σ1 a i x) (mAr σ2 a i y) := by
  obtain ⟨m1, m2, hR, i1, i2, t1, e1, e2, w1, hw, x1, x2, ⟨ty1, ty2⟩, c⟩ := hX
  obtain ⟨n1, n2, n3, n4, n5, n6, n7⟩ := PlV_n hp
  have rt1 := (RtP_bd (t := t) (σ := σ1) (x := x) hp).1
  have o1 : ∀ b, b ≠ a → (mAr σ1 a i x).2.2 b = σ1.2.2 b := fun b hb => mAr_o hb
  have o2 : ∀ b, b ≠ a → (mAr σ2 a i y).2.2 b = σ2.2.2 b := fun b hb => mAr_o hb
  refine ⟨g1, l1, B1, h1, Y1, g2, l2, B2, h2, Y2, k1, k2, ⟨fun b j z hv => ?_, fun b j hb hz hn => ?_, hR.2.2.1, hR.2.2.2⟩, IT_c (σ := σ1) rfl (o1 34 (fun c => n4 c.symm)) (o1 35 (fun c => n5 c.symm)) (o1 28 (fun c => n1 c.symm)) i1, IT_c (σ := σ2) rfl (o2 34 (fun c => n4 c.symm)) (o2 35 (fun c => n5 c.symm)) (o2 28 (fun c => n1 c.symm)) i2, t1, e1, e2, w1, hw, b1, b2, ⟨by rw [o1 2 (fun c => n6 c.symm)]; exact ty1, by rw [o1 2 (fun c => n6 c.symm), o2 2 (fun c => n6 c.symm)]; exact ty2⟩, c⟩
  · rw [o1 28 (fun c => n1 c.symm), o2 28 (fun c => n1 c.symm)]
    have z := (rt1 b j).mp z
    by_cases e : b = a ∧ j = i
    · obtain ⟨eb, ej⟩ := e
      subst eb
      subst ej
      rw [mAr_s, mAr_s, upd_same, upd_same]; exact vc
    · rw [mAr_v e, mAr_v e]; exact hR.1 b j z hv
  · have e : ¬ (b = a ∧ j = i) := by
      intro q
      obtain ⟨eb, ej⟩ := q
      subst eb
      subst ej
      unfold PlV at hp
      unfold Zn at hz
      omega
    rw [mAr_v e, mAr_v e]; exact hR.2.1 b j hb hz (fun z => hn ((InA_bd hp b j).mpr z))
/-- a byte of a string, there being room: an object of five cells, where the heap ended -/
theorem s_memX {v n j : Nat} (hS : HS g l B h σ) (hr : h + 5 ≤ B + 870000) (h56 : σ.1 56 = 0) (hv : v + 4 + n ≤ 1740000) (hk : σ.2.2 28 v = nI 4) (hj : j < n) {L : Nat → Int32} (h1 : L 1 = nI v) (h2 : L 2 = nI j) : Tm (fun k => x_memberAt k 0 L σ) (fun r => r.1 = nI h ∧ r.2.1 56 = 0 ∧ r.2.2.2 28 h = nI 4 ∧ r.2.2.2 28 (h + 1) = nI 1) := by
  have hb := HS_b hS
  have hB := hS.2.1
  refine Tm_suc (fun k => by rw [x_memberAt]) ?_
  rw [h1, h2, show nI v + 4 = nI (v + 4) from n_add (q := 4) (by omega), n_add (by omega)]
  refine Tm_chk (n_in (by omega) (by omega)) ?_
  rw [n_cl (p := v) (by omega), hk]
  refine Tm_ite (fun _ => ?_) (fun z => absurd rfl z)
  refine Tm_chk (n_in (by omega) (by omega)) ?_
  have key : ∀ L : Nat → Int32, Tm (fun k => x_byteString k 0 L σ) (fun r => r.1 = nI h ∧ r.2.1 56 = 0 ∧ r.2.2.2 28 h = nI 4 ∧ r.2.2.2 28 (h + 1) = nI 1) := by
    intro L
    refine Tm_suc (fun k => by rw [x_byteString]) ?_
    refine Tm_ob (s_make hS (n := 1) (by decide) rfl) (fun r hr' => ?_)
    rcases hr' with ⟨z, hr'⟩ | ⟨z, hr'⟩
    · omega
    rw [hr']
    have e56 : (mMk σ h 4 1).1 56 = 0 := (mMk_s (by decide)).trans h56
    refine Tm_ite (fun _ => ?_) (fun z => absurd (show (mMk σ h 4 1).1 56 ≤ 0 by rw [e56]; decide) z)
    show Tm (fun k => x_byteString k 1 (upd L 2 (nI h)) (mMk σ h 4 1)) _
    refine Tm_suc (fun k => by rw [x_byteString]) ?_
    show Tm (fun k => if ¬ (nI h + 4 < 0 ∨ 1740000 ≤ (nI h + 4).toNatClampNeg) then (x_byteString k 2 (upd L 2 (nI h)) (mAr (mMk σ h 4 1) 28 (nI h + 4).toNatClampNeg (L 1))) else none) _
    rw [show nI h + 4 = nI (h + 4) from n_add (q := 4) (by omega)]
    refine Tm_chk (n_in (by omega) (by omega)) ?_
    rw [n_cl (p := h + 4) (by omega)]
    refine Tm_suc (fun k => by rw [x_byteString]) ?_
    show Tm (fun k => if ¬ (nI h + 2 < 0 ∨ 1740000 ≤ (nI h + 2).toNatClampNeg) then (x_byteString k 3 (upd L 2 (nI h)) (mAr (mAr (mMk σ h 4 1) 28 (h + 4) (L 1)) 28 (nI h + 2).toNatClampNeg 2)) else none) _
    rw [show nI h + 2 = nI (h + 2) from n_add (q := 2) (by omega)]
    refine Tm_chk (n_in (by omega) (by omega)) ?_
    rw [n_cl (p := h + 2) (by omega)]
    refine Tm_suc (fun k => by rw [x_byteString]) ?_
    have e : (mAr (mAr (mMk σ h 4 1) 28 (h + 4) (L 1)) 28 (h + 2) 2).2.2 28 = upd (upd (upd (upd (upd (upd (σ.2.2 28) h 4) (h + 1) (nI 1)) (h + 2) 1) (h + 3) 0) (h + 4) (L 1)) (h + 2) 2 := by rw [mAr_s, mAr_s, mMk_28]
    show Tm (fun k => some (nI h, mAr (mAr (mMk σ h 4 1) 28 (h + 4) (L 1)) 28 (h + 2) 2)) _
    refine Tm_some ⟨rfl, e56, ?_, ?_⟩
    · rw [e, upd_other (by omega), upd_other (by omega), upd_other (by omega), upd_other (by omega), upd_other (by omega), upd_same]; rfl
    · rw [e, upd_other (by omega), upd_other (by omega), upd_other (by omega), upd_other (by omega), upd_same]
  refine Tm_ob (key _) (fun r hr => ?_)
  refine Tm_suc (fun k => by rw [x_memberAt]) ?_
  exact Tm_some hr
/-- a member of another row: it lies there -/
theorem s_memY {v n j : Nat} (hv : v + 4 + n ≤ 1740000) {kk : Nat} (hk : σ.2.2 28 v = nI kk) (hk5 : 5 ≤ kk) (hk6 : kk ≤ 6) (hj : j < n) {L : Nat → Int32} (h1 : L 1 = nI v) (h2 : L 2 = nI j) : Tm (fun k => x_memberAt k 0 L σ) (fun r => r = (σ.2.2 28 (v + 4 + j), σ)) := by
  refine Tm_suc (fun k => by rw [x_memberAt]) ?_
  rw [h1, h2, show nI v + 4 = nI (v + 4) from n_add (q := 4) (by omega), n_add (by omega)]
  refine Tm_chk (n_in (by omega) (by omega)) ?_
  rw [n_cl (p := v) (by omega), hk]
  refine Tm_ite (fun z => absurd ((n_eq (q := 4) (by omega) (by decide)).mp z) (by omega)) (fun _ => ?_)
  refine Tm_suc (fun k => by rw [x_memberAt]) ?_
  rw [h1, h2, show nI v + 4 = nI (v + 4) from n_add (q := 4) (by omega), n_add (by omega)]
  refine Tm_chk (n_in (by omega) (by omega)) ?_
  rw [n_cl (p := v + 4 + j) (by omega)]
  refine Tm_suc (fun k => by rw [x_memberAt]) ?_
  exact Tm_some rfl
/-- a string is bound: to one name; to several it is an error -/
theorem E_bindL {N : Nat → Nat → Prop} {g1 g2 : Nat → Prop} {l1 l2 : List Nat} {B1 h1 X1 B2 h2 X2 n q f fu dp e m1 m2 : Nat} (hXC : XC ≤ 408500) (hS1 : STb T FN σ1) (hX : EIx t w XC σ1 σ2 g1 l1 B1 h1 X1 g2 l2 B2 h2 X2) (hC : Cx lc fu dp e σ1) (hn : (1 ≤ n ∧ n < LNo T % 70001)) (hq : 1 ≤ q ∧ q ≤ 70000) (hW : WN T FN f 6 O q K lc (T 6 n)) (hN : ∀ a i, NmP T σ1 (T 6 n) a i → N a i) (y1 : X1 + 5 ≤ XC + 6 * w) (y2 : X2 + 5 ≤ XC + 6 * w) (gm1 : g1 m1) (gm2 : g2 m2) (vc : VC g1 g2 (σ1.2.2 28) (σ2.2.2 28) (nI m1) (nI m2)) (ka : σ1.2.2 28 m1 = nI 4) (kb : σ2.2.2 28 m2 = nI 4) (la : σ1.2.2 28 (m1 + 1) = nI 1) (lb : σ2.2.2 28 (m2 + 1) = nI 1) {L1 L2 : Nat → Int32} (d1 : L1 1 = nI n) (c1 : L2 1 = nI n) (d2 : L1 2 = nI m1) (c2 : L2 2 = nI m2) : T2 (fun k => x_bind k 0 L1 σ1) (fun k => x_bind k 0 L2 σ2) (BdQ N t w XC σ1 σ2) := by
  have hI : EI t w XC σ1 σ2 := ⟨g1, l1, B1, h1, X1, g2, l2, B2, h2, X2, hX⟩
  have hS2 := EI_ST hI hS1
  have ba := HS_vb hX.1.1 (Or.inr gm1)
  have bb := HS_vb hX.2.1.1 (Or.inr gm2)
  have leaf : ∀ {x : Int32}, x = nI 4 → ¬ (x = nI 5 ∨ x = nI 6) := fun h => by rw [h]; decide
  rcases WN_6 hW with ⟨z, _⟩ | ⟨q', n1, s, f', eq, xn, hn1, x6, hs, x5, W9⟩
  · omega
  refine T2_suc (fun k => by rw [x_bind]) (fun k => by rw [x_bind]) ?_
  rw [d1, c1]
  refine T2_chk (n_in (by omega) (by omega)) (n_in (by omega) (by omega)) ?_
  rw [n_cl (p := n) (by omega), hS1.1 5 _ (by omega) (by omega) (by omega), hS2.1 5 _ (by omega) (by omega) (by omega)]
  refine T2_ite Iff.rfl (fun _ _ => ?_) (fun _ _ => ?_)
  · refine T2_chk (n_in3 (by omega) (by omega)) (n_in3 (by omega) (by omega)) ?_
    rw [hS1.1 6 _ (by omega) (by omega) (by omega), hS2.1 6 _ (by omega) (by omega) (by omega), xn]
    obtain ⟨pa, pi, pv, pn, pb⟩ := E_bnd hS1 hI hC hn1 x6 hs x5.1
    have hin : N pa pi := hN pa pi ((NmP_1 hn1 xn).mpr (Or.inl ((pn pa pi).mpr ⟨rfl, rfl⟩)))
    refine T2_ob (pb _ _ rfl rfl) (fun r1 r2 hr => ?_)
    rw [hr.1, hr.2]
    show T2 (fun k => some (0, mAr σ1 pa pi (L1 2))) (fun k => some (0, mAr σ2 pa pi (L2 2))) _
    rw [d2, c2]
    exact T2_some ⟨FE_bd pv hin, FE_bd pv hin, Or.inl (EI_bdG hX pv (MI_bdL hX.1 pv gm1 (leaf ka) la) (MI_bdL hX.2.1 pv gm2 (leaf kb) lb) vc y1 y2)⟩
  have b4 : ∀ (N1 N2 : Nat → Int32), T2 (fun k => x_bind k 4 N1 σ1) (fun k => x_bind k 4 N2 σ2) (BdQ N t w XC σ1 σ2) := by
    intro N1 N2
    refine T2_suc (fun k => by rw [x_bind]) (fun k => by rw [x_bind]) ?_
    refine T2_ob (T2_t (s_fail _ _) (s_fail _ _)) (fun r1 r2 hr => ?_)
    rw [hr.1, hr.2]
    exact T2_some ⟨FE_n FE_er, FE_n FE_er, Or.inr (E_er (a := t) (b := t) (e := 1) hXC hI (by decide) (by decide) (Nat.le_refl _) (Nat.le_refl _))⟩
  have kd : ∀ {g : Nat → Prop} {l : List Nat} {B h m : Nat} {σ : MS}, HS g l B h σ → g m → σ.2.2 28 m = nI 4 → kdN (σ.2.2 28) m = 4 := by
    intro g l B h m σ hS gm e
    obtain ⟨n', v1, v2, v3, v4, v5, v6, v7⟩ := ob_at hS gm
    have k6 := kdN_6 hS (Or.inr gm)
    exact (n_eq (by omega) (by decide)).mp (v5.symm.trans e)
  have b3 : ∀ (N1 N2 : Nat → Int32), N1 2 = nI m1 → N2 2 = nI m2 → T2 (fun k => x_bind k 3 N1 σ1) (fun k => x_bind k 3 N2 σ2) (BdQ N t w XC σ1 σ2) := by
    intro N1 N2 n2 o2
    refine T2_suc (fun k => by rw [x_bind]) (fun k => by rw [x_bind]) ?_
    refine T2_ob (T2_t (s_kind hX.1.1 (Or.inr gm1) (by exact n2)) (s_kind hX.2.1.1 (Or.inr gm2) (by exact o2))) (fun r1 r2 hr => ?_)
    rw [hr.1, hr.2, kd hX.1.1 gm1 ka, kd hX.2.1.1 gm2 kb]
    exact T2_ite (c1 := nI 4 = 5) (c2 := nI 4 = 5) Iff.rfl (fun z _ => absurd z (by decide)) (fun _ _ => b4 _ _)
  have b2 : ∀ (f m : Nat) (x : Int32) (N1 N2 : Nat → Int32), WN T FN f 6 O m K lc x → N1 2 = nI m1 → N2 2 = nI m2 → N1 4 = x → N2 4 = x → T2 (fun k => x_bind k 2 N1 σ1) (fun k => x_bind k 2 N2 σ2) (BdQ N t w XC σ1 σ2) := by
    intro f
    induction f with
    | zero => intro m x N1 N2 hW; exact hW.elim
    | succ f ih =>
      intro m x N1 N2 hW n2 o2 n4 o4
      unfold WN at hW
      rcases hW with ⟨z, _⟩ | ⟨z, _⟩ | ⟨z, _⟩ | ⟨z, _⟩ | ⟨z, _⟩ | ⟨z, _⟩ | ⟨_, hor⟩
      case inl => exact absurd z (by decide)
      case inr.inl => exact absurd z (by decide)
      case inr.inr.inl => exact absurd z (by decide)
      case inr.inr.inr.inl => exact absurd z (by decide)
      case inr.inr.inr.inr.inl => exact absurd z (by decide)
      case inr.inr.inr.inr.inr.inl => exact absurd z (by decide)
      refine T2_suc (fun k => by rw [x_bind]) (fun k => by rw [x_bind]) ?_
      rw [n4, o4]
      rcases hor with ⟨_, z⟩ | ⟨m', n', s', em, xn', hn', x6', hs', x5', W9'⟩
      · rw [z]
        refine T2_ite Iff.rfl (fun _ _ => b3 _ _ n2 o2) (fun y _ => absurd rfl y)
      rw [xn']
      refine T2_ite Iff.rfl (fun y _ => absurd y (n_neg hn')) (fun _ _ => ?_)
      refine T2_chk (n_in (by omega) (by omega)) (n_in (by omega) (by omega)) ?_
      rw [n_cl (p := n') (by omega), hS1.1 9 _ (by omega) (by omega) (by omega), hS2.1 9 _ (by omega) (by omega) (by omega)]
      exact ih m' (T 9 n') _ _ W9' n2 o2 rfl rfl
  refine T2_suc (fun k => by rw [x_bind]) (fun k => by rw [x_bind]) ?_
  rw [d1, c1]
  refine T2_chk (n_in (by omega) (by omega)) (n_in (by omega) (by omega)) ?_
  rw [n_cl (p := n) (by omega), hS1.1 6 _ (by omega) (by omega) (by omega), hS2.1 6 _ (by omega) (by omega) (by omega)]
  exact b2 f q (T 6 n) _ _ hW d2 c2 rfl rfl
end LEA
