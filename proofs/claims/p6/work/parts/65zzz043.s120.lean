/-! Images, sides, parts (reference). -/
section IMG
variable {g : Nat → Prop} {l : List Nat} {B h t : Nat} {σ : MS}
/-- a pair -/
theorem pr_at (hS : HS g l B h σ) {p : Nat} (gp : g p) (kp : kdN (σ.2.2 28) p = 5) (np : σ.2.2 28 (p + 1) = nI 2) : B + 4 ≤ p ∧ p + 6 ≤ h ∧ (∃ a, σ.2.2 28 (p + 4) = nI a ∧ (a < 3 ∨ g a)) ∧ ∃ b, σ.2.2 28 (p + 5) = nI b ∧ (b < 3 ∨ g b) := by
  obtain ⟨n, v1, v2, v3, v4, v5, v6, v7⟩ := ob_at hS gp
  have e : n = 2 := (n_eq (by omega) (by omega)).mp (v1.symm.trans np)
  subst e
  exact ⟨v3, by omega, v7 (by omega) 0 (by omega), v7 (by omega) 1 (by omega)⟩
theorem s_image (hP : VP g l B h t σ) {v x : Nat} (hv : v < 3 ∨ g v) (hx : x < 3 ∨ g x) {L : Nat → Int32} (h1 : L 1 = nI v) (h2 : L 2 = nI x) : Tm (fun k => x_image k 0 L σ) (VO g B h t σ) := by
  have hS := hP.1
  have hb := HS_b hS
  have hB := hS.2.1
  have ht := hP.2.2.1
  refine Tm_suc (fun k => by rw [x_image]) ?_
  refine Tm_ob (s_isMap hS hv (by exact h1)) (fun r hr => ?_)
  obtain ⟨hr1, hr2⟩ := hr
  rw [hr1]
  rcases hr2 with hr2 | ⟨hr2, gv, kv, n, hn, v1, hM⟩
  · refine Tm_ite (fun _ => ?_) (fun w => absurd hr2 w)
    exact Tm_ob (s_wrongKind _) (fun r hr => Tm_some (VO_wk hP hr))
  refine Tm_ite (fun w => absurd (hr2.symm.trans w) (by decide)) (fun _ => ?_)
  obtain ⟨n', w1, w2, w3, w4, -, -, -⟩ := ob_at hS gv
  have e : n' = n := (n_eq (by omega) (by omega)).mp (w1.symm.trans v1)
  subst e
  have b4 : ∀ (p : Nat) (N : Nat → Int32) (τ : MS), p ≤ n' → N 3 = nI t → PuS g t p σ τ → Tm (fun k => x_image k 4 N τ) (VO g B h t σ) := fun p N τ hp n3 hU => by
    refine Tm_suc (fun k => by rw [x_image]) ?_
    exact Tm_ob (PuS_set hU hS hP.2.2.2 (by omega) (by omega) (by exact n3)) (fun r hr => Tm_some hr)
  have b2 : ∀ (q i p : Nat) (N : Nat → Int32) (τ : MS), q + i = n' → p ≤ i → N 1 = nI v → N 2 = nI x → N 3 = nI t → N 4 = nI i → PuS g t p σ τ → Tm (fun k => x_image k 2 N τ) (VO g B h t σ) := by
    intro q
    induction q with
    | zero =>
      intro i p N τ hi hp n1 n2 n3 n4 hU
      refine Tm_suc (fun k => by rw [x_image]) ?_
      rw [n1, n4, show nI v + 1 = nI (v + 1) from n_add1 v]
      refine Tm_chk (n_in (by omega) (by omega)) ?_
      rw [n_cl (p := v + 1) (by omega), hU.2.1 28 (by decide), v1]
      exact Tm_ite (fun _ => b4 p N τ (by omega) n3 hU) (fun w => absurd ((n_le (by omega) (by omega)).mpr (by omega)) w)
    | succ q ih =>
      intro i p N τ hi hp n1 n2 n3 n4 hU
      have b3 : ∀ (p' : Nat) (M : Nat → Int32) (τ' : MS), p' ≤ i + 1 → M 1 = nI v → M 2 = nI x → M 3 = nI t → M 4 = nI i → PuS g t p' σ τ' → Tm (fun k => x_image k 3 M τ') (VO g B h t σ) := fun p' M τ' hp' m1 m2 m3 m4 hU' => by
        refine Tm_suc (fun k => by rw [x_image]) ?_
        exact ih (i + 1) p' _ _ (by omega) hp' m1 m2 m3 (by show M 4 + 1 = _; rw [m4, n_add1]) hU'
      obtain ⟨c, c1, c2, c3, c4⟩ := hM i (by omega)
      obtain ⟨d1, d2, ⟨a, a1, a2⟩, b, bb1, bb2⟩ := pr_at hS c2 c3 c4
      refine Tm_suc (fun k => by rw [x_image]) ?_
      rw [n1, n4, show nI v + 1 = nI (v + 1) from n_add1 v, show nI v + 4 = nI (v + 4) from n_add (q := 4) (by omega), n_add (by omega)]
      refine Tm_chk (n_in (by omega) (by omega)) ?_
      rw [n_cl (p := v + 1) (by omega), hU.2.1 28 (by decide), v1]
      refine Tm_ite (fun w => absurd ((n_le (by omega) (by omega)).mp w) (by omega)) (fun _ => ?_)
      refine Tm_chk (n_in (by omega) (by omega)) ?_
      rw [n_cl (p := v + 4 + i) (by omega), c1, show nI c + 4 = nI (c + 4) from n_add (q := 4) (by omega), show nI c + 5 = nI (c + 5) from n_add (q := 5) (by omega)]
      refine Tm_chk (n_in (by omega) (by omega)) ?_
      rw [n_cl (p := c + 4) (by omega), a1]
      refine Tm_ob (s_compareV (PuS_HS hU hS) a2 hx rfl (by exact n2)) (fun r hr => ?_)
      rw [hr]
      refine Tm_ite (fun _ => ?_) (fun _ => b3 p _ τ (by omega) n1 n2 n3 n4 hU)
      refine Tm_chk (n_in (by omega) (by omega)) ?_
      rw [n_cl (p := c + 5) (by omega), hU.2.1 28 (by decide), bb1]
      exact Tm_ob (PuS_push hU (by omega) bb2 rfl) (fun r hr => b3 (p + 1) _ _ (by omega) n1 n2 n3 n4 hr)
  refine Tm_suc (fun k => by rw [x_image]) ?_
  rw [hP.2.1]
  exact b2 n' 0 0 _ _ (by omega) (Nat.le_refl _) h1 h2 rfl rfl (PuS_0 hP.2.1)
theorem s_side (hP : VP g l B h t σ) {v c : Nat} (hv : v < 3 ∨ g v) (hc : c < 2) {L : Nat → Int32} (h1 : L 1 = nI v) (h2 : L 2 = nI c) : Tm (fun k => x_side k 0 L σ) (VO g B h t σ) := by
  have hS := hP.1
  have hb := HS_b hS
  have hB := hS.2.1
  have ht := hP.2.2.1
  refine Tm_suc (fun k => by rw [x_side]) ?_
  refine Tm_ob (s_isMap hS hv (by exact h1)) (fun r hr => ?_)
  obtain ⟨hr1, hr2⟩ := hr
  rw [hr1]
  rcases hr2 with hr2 | ⟨hr2, gv, kv, n, hn, v1, hM⟩
  · refine Tm_ite (fun _ => ?_) (fun w => absurd hr2 w)
    exact Tm_ob (s_wrongKind _) (fun r hr => Tm_some (VO_wk hP hr))
  refine Tm_ite (fun w => absurd (hr2.symm.trans w) (by decide)) (fun _ => ?_)
  obtain ⟨n', w1, w2, w3, w4, -, -, -⟩ := ob_at hS gv
  have e : n' = n := (n_eq (by omega) (by omega)).mp (w1.symm.trans v1)
  subst e
  have b8 : ∀ (N : Nat → Int32) (τ : MS), N 3 = nI t → PuS g t n' σ τ → Tm (fun k => x_side k 8 N τ) (VO g B h t σ) := fun N τ n3 hU => by
    refine Tm_suc (fun k => by rw [x_side]) ?_
    refine Tm_ite (fun _ => ?_) (fun _ => ?_)
    · refine Tm_suc (fun k => by rw [x_side]) ?_
      exact Tm_ob (PuS_set hU hS hP.2.2.2 (by omega) (by omega) (by exact n3)) (fun r hr => Tm_some hr)
    · rw [n3]
      show Tm (fun k => x_side k 9 N (mSc τ 59 (nI t))) _
      refine Tm_suc (fun k => by rw [x_side]) ?_
      refine Tm_ob (s_fail _ _) (fun r hr => ?_)
      rw [hr]
      have hS1 := PuS_HS hU hS
      exact Tm_some (PuS_VO hU hS (VO_sc hS1 (VO_er2 (σ := mSc τ 59 (nI t)) (e := 3) (HS_c hS1 rfl rfl rfl) (ErB_c (show τ.1 56 = σ.1 56 from hU.1 56 (by decide)) hP.2.2.2) rfl (by decide))))
  have b4 : ∀ (q i : Nat) (N : Nat → Int32) (τ : MS), q + i = n' → N 3 = nI t → N 5 = nI (t + i) → PuS g t n' σ τ → Tm (fun k => x_side k 4 N τ) (VO g B h t σ) := by
    intro q
    induction q with
    | zero =>
      intro i N τ hi n3 n5 hU
      refine Tm_suc (fun k => by rw [x_side]) ?_
      rw [hU.2.2.2.1, n5]
      exact Tm_ite (fun _ => b8 N τ n3 hU) (fun w => absurd ((n_le (by omega) (by omega)).mpr (by omega)) w)
    | succ q ih =>
      intro i N τ hi n3 n5 hU
      have b7 : ∀ M : Nat → Int32, M 3 = nI t → M 5 = nI (t + i) → Tm (fun k => x_side k 7 M τ) (VO g B h t σ) := fun M m3 m5 => by
        refine Tm_suc (fun k => by rw [x_side]) ?_
        exact ih (i + 1) _ _ (by omega) m3 (by show M 5 + 1 = _; rw [m5, n_add1, Nat.add_assoc]) hU
      have b5 : Tm (fun k => x_side k 5 N τ) (VO g B h t σ) := by
        refine Tm_suc (fun k => by rw [x_side]) ?_
        exact b7 _ n3 n5
      have b6 : Tm (fun k => x_side k 6 N τ) (VO g B h t σ) := by
        refine Tm_suc (fun k => by rw [x_side]) ?_
        exact b7 _ n3 n5
      refine Tm_suc (fun k => by rw [x_side]) ?_
      rw [hU.2.2.2.1, n5]
      refine Tm_ite (fun w => absurd ((n_le (by omega) (by omega)).mp w) (by omega)) (fun _ => ?_)
      refine Tm_ite (fun _ => ?_) (fun _ => b5)
      refine Tm_chk (n_in (by omega) (by omega)) ?_
      exact Tm_ite (fun _ => b5) (fun _ => b6)
  have b2 : ∀ (q i : Nat) (N : Nat → Int32) (τ : MS), q + i = n' → N 1 = nI v → N 2 = nI c → N 3 = nI t → N 4 = nI i → PuS g t i σ τ → Tm (fun k => x_side k 2 N τ) (VO g B h t σ) := by
    intro q
    induction q with
    | zero =>
      intro i N τ hi n1 n2 n3 n4 hU
      have : i = n' := by omega
      subst this
      refine Tm_suc (fun k => by rw [x_side]) ?_
      rw [n1, n4, show nI v + 1 = nI (v + 1) from n_add1 v]
      refine Tm_chk (n_in (by omega) (by omega)) ?_
      rw [n_cl (p := v + 1) (by omega), hU.2.1 28 (by decide), v1]
      refine Tm_ite (fun _ => ?_) (fun w => absurd ((n_le (by omega) (by omega)).mpr (by omega)) w)
      refine Tm_suc (fun k => by rw [x_side]) ?_
      exact b4 i 0 _ _ (by omega) n3 n3 hU
    | succ q ih =>
      intro i N τ hi n1 n2 n3 n4 hU
      obtain ⟨p, c1, c2, c3, c4⟩ := hM i (by omega)
      obtain ⟨d1, d2, hA, hBb⟩ := pr_at hS c2 c3 c4
      have hy : ∃ y, σ.2.2 28 (p + 4 + c) = nI y ∧ (y < 3 ∨ g y) := by
        have : c = 0 ∨ c = 1 := by omega
        rcases this with rfl | rfl
        · exact hA
        · exact hBb
      obtain ⟨y, y1, y2⟩ := hy
      refine Tm_suc (fun k => by rw [x_side]) ?_
      rw [n1, n4, n2, show nI v + 1 = nI (v + 1) from n_add1 v, show nI v + 4 = nI (v + 4) from n_add (q := 4) (by omega), n_add (by omega)]
      refine Tm_chk (n_in (by omega) (by omega)) ?_
      rw [n_cl (p := v + 1) (by omega), hU.2.1 28 (by decide), v1]
      refine Tm_ite (fun w => absurd ((n_le (by omega) (by omega)).mp w) (by omega)) (fun _ => ?_)
      refine Tm_chk (n_in (by omega) (by omega)) ?_
      rw [n_cl (p := v + 4 + i) (by omega), c1, show nI p + 4 = nI (p + 4) from n_add (q := 4) (by omega), n_add (by omega)]
      refine Tm_chk (n_in (by omega) (by omega)) ?_
      rw [n_cl (p := p + 4 + c) (by omega), y1]
      exact Tm_ob (PuS_push hU (by omega) y2 rfl) (fun r hr => ih (i + 1) _ _ (by omega) n1 n2 n3 (n_add1 i) hr)
  refine Tm_suc (fun k => by rw [x_side]) ?_
  rw [hP.2.1]
  exact b2 n' 0 _ _ (by omega) h1 h2 rfl rfl (PuS_0 hP.2.1)
end IMG
