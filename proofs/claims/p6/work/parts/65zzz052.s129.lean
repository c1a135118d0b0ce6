/-! A slice is written (reference). -/
section PTS
variable {g : Nat → Prop} {l : List Nat} {B h t : Nat} {σ : MS}
/-- a slice of a string is written -/
theorem s_ptS4 (hP : VP g l B h t σ) {v x n m y w : Nat} (v1 : σ.2.2 28 (v + 1) = nI n) (v4 : v + 4 + n ≤ 1740000) (hn : n ≤ 3996) (x4 : x + 4 + m ≤ 1740000) (hm : m ≤ 3996) (s1 : σ.1 100 = nI y) (s2 : σ.1 101 = nI w) (hy : 1 ≤ y) (hyw : y ≤ w + 1) (hw : w ≤ n) : ∀ (N : Nat → Int32), N 1 = nI v → N 4 = nI x → N 5 = nI n → N 6 = nI m → N 7 = nI 0 → N 8 = nI 0 → Tm (fun k => x_putSlice k 4 N σ) (VO g B h t σ) := by
  have b12 : ∀ (p : Nat) (N : Nat → Int32) (τ : MS), p ≤ 8000 → N 7 = nI p → BF σ τ → Tm (fun k => x_putSlice k 12 N τ) (VO g B h t σ) := fun p N τ hp n7 hF => by
    refine Tm_suc (fun k => by rw [x_putSlice]) ?_
    exact Tm_ob (s_stringOf51 (BF_VP hF hP) (f := 0) (n := p) (by omega) (fun _ => by omega) rfl (by exact n7)) (fun r hr => Tm_some (BF_VO hF hP hr))
  have b10 : ∀ (q i p : Nat) (N : Nat → Int32) (τ : MS), q + i = n → p + w = y - 1 + m + i → w ≤ i → N 1 = nI v → N 5 = nI n → N 7 = nI p → N 8 = nI i → BF σ τ → Tm (fun k => x_putSlice k 10 N τ) (VO g B h t σ) := by
    intro q
    induction q with
    | zero =>
      intro i p N τ hi hp hwi n1 n5 n7 n8 hF
      refine Tm_suc (fun k => by rw [x_putSlice]) ?_
      rw [n5, n8]
      exact Tm_ite (fun _ => b12 p N τ (by omega) n7 hF) (fun w => absurd ((n_le (by omega) (by omega)).mpr (by omega)) w)
    | succ q ih =>
      intro i p N τ hi hp hwi n1 n5 n7 n8 hF
      refine Tm_suc (fun k => by rw [x_putSlice]) ?_
      rw [n5, n8, n1, n7, show nI v + 4 = nI (v + 4) from n_add (q := 4) (by omega), n_add (by omega)]
      refine Tm_ite (fun w => absurd ((n_le (by omega) (by omega)).mp w) (by omega)) (fun _ => ?_)
      refine Tm_chk (n_in (by omega) (by omega)) ?_
      refine Tm_chk (n_in (by omega) (by omega)) ?_
      rw [n_cl (p := p) (by omega)]
      show Tm (fun k => x_putSlice k 11 N (mAr τ 51 p (τ.2.2 28 (nI (v + 4 + i)).toNatClampNeg))) _
      refine Tm_suc (fun k => by rw [x_putSlice]) ?_
      exact ih (i + 1) (p + 1) _ _ (by omega) (by omega) (by omega) n1 n5 (by show N 7 + 1 = _; rw [n7, n_add1]) (by show N 8 + 1 = _; rw [n8, n_add1]) (BF_51 hF)
  have b7 : ∀ (q i p : Nat) (N : Nat → Int32) (τ : MS), q + i = m → p = y - 1 + i → N 1 = nI v → N 4 = nI x → N 5 = nI n → N 6 = nI m → N 7 = nI p → N 8 = nI i → BF σ τ → Tm (fun k => x_putSlice k 7 N τ) (VO g B h t σ) := by
    intro q
    induction q with
    | zero =>
      intro i p N τ hi hp n1 n4 n5 n6 n7 n8 hF
      refine Tm_suc (fun k => by rw [x_putSlice]) ?_
      rw [n6, n8]
      refine Tm_ite (fun _ => ?_) (fun w => absurd ((n_le (by omega) (by omega)).mpr (by omega)) w)
      refine Tm_suc (fun k => by rw [x_putSlice]) ?_
      rw [hF.1 101, s2]
      exact b10 (n - w) w p _ _ (by omega) (by omega) (Nat.le_refl _) n1 n5 n7 rfl hF
    | succ q ih =>
      intro i p N τ hi hp n1 n4 n5 n6 n7 n8 hF
      refine Tm_suc (fun k => by rw [x_putSlice]) ?_
      rw [n6, n8, n4, n7, show nI x + 4 = nI (x + 4) from n_add (q := 4) (by omega), n_add (by omega)]
      refine Tm_ite (fun w => absurd ((n_le (by omega) (by omega)).mp w) (by omega)) (fun _ => ?_)
      refine Tm_chk (n_in (by omega) (by omega)) ?_
      refine Tm_chk (n_in (by omega) (by omega)) ?_
      rw [n_cl (p := p) (by omega)]
      show Tm (fun k => x_putSlice k 8 N (mAr τ 51 p (τ.2.2 28 (nI (x + 4 + i)).toNatClampNeg))) _
      refine Tm_suc (fun k => by rw [x_putSlice]) ?_
      exact ih (i + 1) (p + 1) _ _ (by omega) (by omega) n1 n4 n5 n6 (by show N 7 + 1 = _; rw [n7, n_add1]) (by show N 8 + 1 = _; rw [n8, n_add1]) (BF_51 hF)
  have b4 : ∀ (q i : Nat) (N : Nat → Int32) (τ : MS), q + i = y - 1 → N 1 = nI v → N 4 = nI x → N 5 = nI n → N 6 = nI m → N 7 = nI i → N 8 = nI i → BF σ τ → Tm (fun k => x_putSlice k 4 N τ) (VO g B h t σ) := by
    intro q
    induction q with
    | zero =>
      intro i N τ hi n1 n4 n5 n6 n7 n8 hF
      refine Tm_suc (fun k => by rw [x_putSlice]) ?_
      rw [hF.1 100, s1, n8, show nI y - 1 = nI (y - 1) from n_sub (p := y) (q := 1) (by omega) (by omega)]
      refine Tm_ite (fun _ => ?_) (fun w => absurd ((n_le (by omega) (by omega)).mpr (by omega)) w)
      refine Tm_suc (fun k => by rw [x_putSlice]) ?_
      exact b7 m 0 i _ _ (by omega) (by omega) n1 n4 n5 n6 n7 rfl hF
    | succ q ih =>
      intro i N τ hi n1 n4 n5 n6 n7 n8 hF
      refine Tm_suc (fun k => by rw [x_putSlice]) ?_
      rw [hF.1 100, s1, n8, n1, n7, show nI y - 1 = nI (y - 1) from n_sub (p := y) (q := 1) (by omega) (by omega), show nI v + 4 = nI (v + 4) from n_add (q := 4) (by omega), n_add (by omega)]
      refine Tm_ite (fun w => absurd ((n_le (by omega) (by omega)).mp w) (by omega)) (fun _ => ?_)
      refine Tm_chk (n_in (by omega) (by omega)) ?_
      refine Tm_chk (n_in (by omega) (by omega)) ?_
      rw [n_cl (p := i) (by omega)]
      show Tm (fun k => x_putSlice k 5 N (mAr τ 51 i (τ.2.2 28 (nI (v + 4 + i)).toNatClampNeg))) _
      refine Tm_suc (fun k => by rw [x_putSlice]) ?_
      exact ih (i + 1) _ _ (by omega) n1 n4 n5 n6 (by show N 7 + 1 = _; rw [n7, n_add1]) (by show N 8 + 1 = _; rw [n8, n_add1]) (BF_51 hF)
  intro N n1 n4 n5 n6 n7 n8
  exact b4 (y - 1) 0 N σ (by omega) n1 n4 n5 n6 n7 n8 BF_rf
/-- a slice of a tuple is written -/
theorem s_ptS13 (hP : VP g l B h t σ) {v x n m y w : Nat} (hn : n ≤ 3996) (hm : m ≤ 3996) (v4 : v + 4 + n ≤ 1740000) (x4 : x + 4 + m ≤ 1740000) (v7 : ∀ i, i < n → ∃ m, σ.2.2 28 (v + 4 + i) = nI m ∧ (m < 3 ∨ g m)) (x7 : ∀ i, i < m → ∃ n, σ.2.2 28 (x + 4 + i) = nI n ∧ (n < 3 ∨ g n)) (s1 : σ.1 100 = nI y) (s2 : σ.1 101 = nI w) (hy : 1 ≤ y) (hyw : y ≤ w + 1) (hw : w ≤ n) : ∀ (N : Nat → Int32), N 1 = nI v → N 4 = nI x → N 5 = nI n → N 6 = nI m → Tm (fun k => x_putSlice k 13 N σ) (VO g B h t σ) := by
  have hS := hP.1
  have ht := hP.2.2.1
  have b18 : ∀ (q i p : Nat) (N : Nat → Int32) (τ : MS), q + i = n → p + w = y - 1 + m + i → w ≤ i → N 1 = nI v → N 5 = nI n → N 7 = nI t → N 8 = nI i → PuS g t p σ τ → Tm (fun k => x_putSlice k 18 N τ) (VO g B h t σ) := by
    intro q
    induction q with
    | zero =>
      intro i p N τ hi hp hwi n1 n5 n7 n8 hU
      refine Tm_suc (fun k => by rw [x_putSlice]) ?_
      rw [n5, n8]
      refine Tm_ite (fun _ => ?_) (fun w => absurd ((n_le (by omega) (by omega)).mpr (by omega)) w)
      refine Tm_suc (fun k => by rw [x_putSlice]) ?_
      exact Tm_ob (PuS_tup hU hS hP.2.2.2 (by omega) (by exact n7)) (fun r hr => Tm_some hr)
    | succ q ih =>
      intro i p N τ hi hp hwi n1 n5 n7 n8 hU
      obtain ⟨z, z1, z2⟩ := v7 i (by omega)
      refine Tm_suc (fun k => by rw [x_putSlice]) ?_
      rw [n5, n8, n1, show nI v + 4 = nI (v + 4) from n_add (q := 4) (by omega), n_add (by omega)]
      refine Tm_ite (fun w => absurd ((n_le (by omega) (by omega)).mp w) (by omega)) (fun _ => ?_)
      refine Tm_chk (n_in (by omega) (by omega)) ?_
      rw [n_cl (p := v + 4 + i) (by omega), hU.2.1 28 (by decide), z1]
      exact Tm_ob (PuS_push hU (by omega) z2 rfl) (fun r hr => ih (i + 1) (p + 1) _ _ (by omega) (by omega) (by omega) n1 n5 n7 (n_add1 i) hr)
  have b16 : ∀ (q i p : Nat) (N : Nat → Int32) (τ : MS), q + i = m → p = y - 1 + i → N 1 = nI v → N 4 = nI x → N 5 = nI n → N 6 = nI m → N 7 = nI t → N 8 = nI i → PuS g t p σ τ → Tm (fun k => x_putSlice k 16 N τ) (VO g B h t σ) := by
    intro q
    induction q with
    | zero =>
      intro i p N τ hi hp n1 n4 n5 n6 n7 n8 hU
      refine Tm_suc (fun k => by rw [x_putSlice]) ?_
      rw [n6, n8]
      refine Tm_ite (fun _ => ?_) (fun w => absurd ((n_le (by omega) (by omega)).mpr (by omega)) w)
      refine Tm_suc (fun k => by rw [x_putSlice]) ?_
      rw [hU.1 101 (by decide), s2]
      exact b18 (n - w) w p _ _ (by omega) (by omega) (Nat.le_refl _) n1 n5 n7 rfl hU
    | succ q ih =>
      intro i p N τ hi hp n1 n4 n5 n6 n7 n8 hU
      obtain ⟨z, z1, z2⟩ := x7 i (by omega)
      refine Tm_suc (fun k => by rw [x_putSlice]) ?_
      rw [n6, n8, n4, show nI x + 4 = nI (x + 4) from n_add (q := 4) (by omega), n_add (by omega)]
      refine Tm_ite (fun w => absurd ((n_le (by omega) (by omega)).mp w) (by omega)) (fun _ => ?_)
      refine Tm_chk (n_in (by omega) (by omega)) ?_
      rw [n_cl (p := x + 4 + i) (by omega), hU.2.1 28 (by decide), z1]
      exact Tm_ob (PuS_push hU (by omega) z2 rfl) (fun r hr => ih (i + 1) (p + 1) _ _ (by omega) (by omega) n1 n4 n5 n6 n7 (n_add1 i) hr)
  have b14 : ∀ (q i : Nat) (N : Nat → Int32) (τ : MS), q + i = y - 1 → N 1 = nI v → N 4 = nI x → N 5 = nI n → N 6 = nI m → N 7 = nI t → N 8 = nI i → PuS g t i σ τ → Tm (fun k => x_putSlice k 14 N τ) (VO g B h t σ) := by
    intro q
    induction q with
    | zero =>
      intro i N τ hi n1 n4 n5 n6 n7 n8 hU
      refine Tm_suc (fun k => by rw [x_putSlice]) ?_
      rw [hU.1 100 (by decide), s1, n8, show nI y - 1 = nI (y - 1) from n_sub (p := y) (q := 1) (by omega) (by omega)]
      refine Tm_ite (fun _ => ?_) (fun w => absurd ((n_le (by omega) (by omega)).mpr (by omega)) w)
      refine Tm_suc (fun k => by rw [x_putSlice]) ?_
      exact b16 m 0 i _ _ (by omega) (by omega) n1 n4 n5 n6 n7 rfl hU
    | succ q ih =>
      intro i N τ hi n1 n4 n5 n6 n7 n8 hU
      obtain ⟨z, z1, z2⟩ := v7 i (by omega)
      refine Tm_suc (fun k => by rw [x_putSlice]) ?_
      rw [hU.1 100 (by decide), s1, n8, n1, show nI y - 1 = nI (y - 1) from n_sub (p := y) (q := 1) (by omega) (by omega), show nI v + 4 = nI (v + 4) from n_add (q := 4) (by omega), n_add (by omega)]
      refine Tm_ite (fun w => absurd ((n_le (by omega) (by omega)).mp w) (by omega)) (fun _ => ?_)
      refine Tm_chk (n_in (by omega) (by omega)) ?_
      rw [n_cl (p := v + 4 + i) (by omega), hU.2.1 28 (by decide), z1]
      exact Tm_ob (PuS_push hU (by omega) z2 rfl) (fun r hr => ih (i + 1) _ _ (by omega) n1 n4 n5 n6 n7 (n_add1 i) hr)
  intro N n1 n4 n5 n6
  refine Tm_suc (fun k => by rw [x_putSlice]) ?_
  rw [hP.2.1]
  exact b14 (y - 1) 0 _ _ (by omega) n1 n4 n5 n6 rfl rfl (PuS_0 hP.2.1)
theorem s_putSlice (hP : VP g l B h t σ) {v a b x : Nat} (hv : v < 3 ∨ g v) (ha : a < 3 ∨ g a) (hb : b < 3 ∨ g b) (hx : x < 3 ∨ g x) {L : Nat → Int32} (h1 : L 1 = nI v) (h2 : L 2 = nI a) (h3 : L 3 = nI b) (h4 : L 4 = nI x) : Tm (fun k => x_putSlice k 0 L σ) (VO g B h t σ) := by
  refine Tm_suc (fun k => by rw [x_putSlice]) ?_
  refine Tm_ob (s_isSlice hP.1 hv ha hb (by exact h1) (by exact h2) (by exact h3)) (fun r hr => ?_)
  rcases hr with hr | ⟨r1, gv, hk, x0, z, y, w, hy, hw, hx0, hz, r2⟩
  · rw [hr]
    exact Tm_ite (fun _ => Tm_some (VO_er hP (e := 1) (by decide))) (fun w => absurd rfl w)
  refine Tm_ite (fun w => absurd (r1.symm.trans w) (by decide)) (fun _ => ?_)
  rw [r2]
  have hP1 := Sl_VP (x := x0) (z := z) hP
  refine Tm_mono (Q := VO g B h t (mSc (mSc σ 100 x0) 101 z)) ?_ (fun r hr => Sl_VO hP hr)
  have hk1 : kdN ((mSc (mSc σ 100 x0) 101 z).2.2 28) v = 4 ∨ kdN ((mSc (mSc σ 100 x0) 101 z).2.2 28) v = 5 := hk
  have x1 : (mSc (mSc σ 100 x0) 101 z).1 100 = nI y ∨ (mSc (mSc σ 100 x0) 101 z).1 100 = - nI y := hx0
  have z1 : (mSc (mSc σ 100 x0) 101 z).1 101 = nI w ∨ (mSc (mSc σ 100 x0) 101 z).1 101 = - nI w := hz
  generalize mSc (mSc σ 100 x0) 101 z = ρ at hP1 hk1 x1 z1
  have hS1 := hP1.1
  have hb1 := HS_b hS1
  have kx := kdN_6 hS1 hx
  obtain ⟨n, v1, v2, v3, v4, v5, v6, v7⟩ := ob_at hS1 gv
  refine Tm_suc (fun k => by rw [x_putSlice]) ?_
  refine Tm_ob (s_kind hS1 hx (by exact h4)) (fun r hr => ?_)
  rw [hr]
  refine Tm_ob (s_kind hS1 hv (by exact h1)) (fun r hr => ?_)
  rw [hr]
  refine Tm_ite (fun e => ?_) (fun _ => Tm_ob (s_wrongKind _) (fun r hr => Tm_some (VO_wk hP1 hr)))
  have e := (n_eq (by omega) (by omega)).mp e
  have gx := kdN_ge hS1 hx (by omega)
  obtain ⟨m, c1, c2, c3, c4, c5, c6, c7⟩ := ob_at hS1 gx
  refine Tm_suc (fun k => by rw [x_putSlice]) ?_
  refine Tm_ob (s_isSliceIn hS1 v1 v2 (by omega) hy hw x1 z1 (by exact h1)) (fun s hs => ?_)
  rcases hs with hs | ⟨hs, s1, s2, s3, s4, s5⟩
  · rw [hs]
    exact Tm_ite (fun _ => Tm_some (VO_er hP1 (e := 4) (by decide))) (fun w => absurd rfl w)
  rw [hs]
  refine Tm_ite (fun w => absurd (show (1 : Int32) = 0 from w) (by decide)) (fun _ => ?_)
  refine Tm_suc (fun k => by rw [x_putSlice]) ?_
  rw [h1, h4, show nI v + 1 = nI (v + 1) from n_add1 v, show nI x + 1 = nI (x + 1) from n_add1 x]
  refine Tm_chk (n_in (by omega) (by omega)) ?_
  refine Tm_chk (n_in (by omega) (by omega)) ?_
  refine Tm_chk (n_in (by omega) (by omega)) ?_
  show Tm (fun k => if ρ.2.2 28 (nI v).toNatClampNeg = 4 then x_putSlice k 4 (upd (upd (upd (upd L 5 (ρ.2.2 28 (nI (v + 1)).toNatClampNeg)) 6 (ρ.2.2 28 (nI (x + 1)).toNatClampNeg)) 7 0) 8 0) ρ else x_putSlice k 13 (upd (upd L 5 (ρ.2.2 28 (nI (v + 1)).toNatClampNeg)) 6 (ρ.2.2 28 (nI (x + 1)).toNatClampNeg)) ρ) _
  rw [n_cl (p := v) (by omega), n_cl (p := v + 1) (by omega), n_cl (p := x + 1) (by omega), v1, c1, v5]
  refine Tm_ite (fun _ => ?_) (fun z => ?_)
  · exact s_ptS4 hP1 v1 (by omega) v2 (by omega) c2 s1 s2 s3 s4 s5 _ h1 h4 rfl rfl rfl rfl
  · have hk5 : 5 ≤ kdN (ρ.2.2 28) v := by
      rcases hk1 with e | e
      · exact absurd (by rw [e]; rfl) z
      · omega
    exact s_ptS13 hP1 v2 c2 (by omega) (by omega) (v7 hk5) (c7 (by omega)) s1 s2 s3 s4 s5 _ h1 h4 rfl rfl
end PTS
