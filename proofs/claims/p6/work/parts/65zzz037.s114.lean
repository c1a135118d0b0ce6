/-! Sift, joined, plus (reference). -/
section PLU
variable {g : Nat → Prop} {l : List Nat} {B h t : Nat} {σ : MS}
theorem n_in2 {p n : Nat} (hp : p < 2147483648) (h : p < n) : ¬ (nI p < 0 ∨ n ≤ p) := by
  rintro (z | z)
  · have := (n_lt (p := p) (q := 0) hp (by decide)).mp z
    omega
  · omega
/-- values are being pushed: n of them above f -/
def PuS (g : Nat → Prop) (f n : Nat) (σ τ : MS) : Prop := (∀ j, j ≠ 59 → τ.1 j = σ.1 j) ∧ (∀ j, j ≠ 29 → τ.2.2 j = σ.2.2 j) ∧ (∀ i, i < f → τ.2.2 29 i = σ.2.2 29 i) ∧ τ.1 59 = nI (f + n) ∧ PLv g (τ.2.2 29) f n
theorem PuS_0 {f : Nat} (h59 : σ.1 59 = nI f) : PuS g f 0 σ σ := ⟨fun _ _ => rfl, fun _ _ => rfl, fun _ _ => rfl, h59, fun i hi => absurd hi (Nat.not_lt_zero i)⟩
theorem PuS_HS {f n : Nat} {τ : MS} (hP : PuS g f n σ τ) (hS : HS g l B h σ) : HS g l B h τ := HS_c hS (hP.1 54 (by decide)) (hP.1 55 (by decide)) (hP.2.1 28 (by decide))
theorem PuS_FW {f n : Nat} {τ : MS} (hP : PuS g f n σ τ) : FW f σ τ := ⟨fun j hj => hP.1 j (by omega), fun j hj => hP.2.1 j (by omega), hP.2.2.1⟩
theorem PuS_pu {f n x : Nat} {τ : MS} (hP : PuS g f n σ τ) (hx : x < 3 ∨ g x) : PuS g f (n + 1) σ (mPu τ (f + n) (nI x)) := by
  refine ⟨fun j hj => by rw [mPu_s hj]; exact hP.1 j hj, fun j hj => by rw [mPu_o hj]; exact hP.2.1 j hj, fun i hi => by rw [mPu_29, upd_other (by omega)]; exact hP.2.2.1 i hi, mPu_59, fun i hi => ?_⟩
  rw [mPu_29]
  by_cases e : i = n
  · rw [e, upd_same]; exact ⟨x, rfl, hx⟩
  · rw [upd_other (by omega)]; exact hP.2.2.2.2 i (by omega)
theorem PuS_VO {f n : Nat} {τ : MS} {r : Int32 × MS} (hP : PuS g f n σ τ) (hS : HS g l B h σ) (b : VO g B h f τ r) : VO g B h f σ r :=
  VO_tr (τ := τ) (g1 := g) (l1 := l) (h1 := h) ⟨PuS_HS hP hS, fun _ z => z, Nat.le_refl _, fun i _ _ => by rw [hP.2.1 28 (by decide)]⟩ (PuS_FW hP) (fun z => by rw [hP.1 56 (by decide)]; exact z) b
theorem PuS_set {f n : Nat} {τ : MS} (hP : PuS g f n σ τ) (hS : HS g l B h σ) (hE : ErB σ) (hfn : f + n ≤ 185000) (hn : n ≤ 60100) {L : Nat → Int32} (hL : L 1 = nI f) : Tm (fun k => x_setOf k 0 L τ) (VO g B h f σ) :=
  Tm_mono (s_setOf (PuS_HS hP hS) (ErB_c (hP.1 56 (by decide)) hE) hP.2.2.2.1 hfn hn hP.2.2.2.2 hL) (fun r hr => PuS_VO hP hS hr)
theorem PuS_tup {f n : Nat} {τ : MS} (hP : PuS g f n σ τ) (hS : HS g l B h σ) (hE : ErB σ) (hfn : f + n ≤ 185000) {L : Nat → Int32} (hL : L 1 = nI f) : Tm (fun k => x_tupleOf k 0 L τ) (VO g B h f σ) :=
  Tm_mono (s_tupleOf (PuS_HS hP hS) (ErB_c (hP.1 56 (by decide)) hE) hP.2.2.2.1 hfn hP.2.2.2.2 hL) (fun r hr => PuS_VO hP hS hr)
theorem PuS_push {f n x : Nat} {τ : MS} (hP : PuS g f n σ τ) (hfn : f + n < 185000) (hx : x < 3 ∨ g x) {L : Nat → Int32} (hL : L 1 = nI x) : Tm (fun k => x_push k 0 L τ) (fun r => PuS g f (n + 1) σ r.2) :=
  Tm_mono (s_push hP.2.2.2.1 hfn L) (fun r hr => by rw [hr, hL]; exact PuS_pu hP hx)
theorem s_sift (hP : VP g l B h t σ) {v x : Nat} (hv : g v) (hk : 5 ≤ kdN (σ.2.2 28) v) (hx : g x) (hkx : 5 ≤ kdN (σ.2.2 28) x) {L : Nat → Int32} (h1 : L 1 = nI v) (h2 : L 2 = nI x) : Tm (fun k => x_sift k 0 L σ) (VO g B h t σ) := by
  have hS := hP.1
  have hb := HS_b hS
  have hB := hS.2.1
  have ht := hP.2.2.1
  obtain ⟨n, v1, v2, v3, v4, v5, v6, v7⟩ := ob_at hS hv
  have v7 := v7 hk
  have b3 : ∀ (p : Nat) (N : Nat → Int32) (τ : MS), p ≤ n → N 4 = nI t → PuS g t p σ τ → Tm (fun k => x_sift k 3 N τ) (VO g B h t σ) := fun p N τ hp n4 hU => by
    refine Tm_suc (fun k => by rw [x_sift]) ?_
    exact Tm_ob (PuS_set hU hS hP.2.2.2 (by omega) (by omega) (by exact n4)) (fun r hr => Tm_some hr)
  have b1 : ∀ (q i p : Nat) (N : Nat → Int32) (τ : MS), q + i = n → p ≤ i → N 1 = nI v → N 2 = nI x → N 4 = nI t → N 5 = nI i → PuS g t p σ τ → Tm (fun k => x_sift k 1 N τ) (VO g B h t σ) := by
    intro q
    induction q with
    | zero =>
      intro i p N τ hi hp n1 n2 n4 n5 hU
      refine Tm_suc (fun k => by rw [x_sift]) ?_
      rw [n1, n5, show nI v + 1 = nI (v + 1) from n_add1 v]
      refine Tm_chk (n_in (by omega) (by omega)) ?_
      rw [n_cl (p := v + 1) (by omega), hU.2.1 28 (by decide), v1]
      exact Tm_ite (fun _ => b3 p N τ (by omega) n4 hU) (fun w => absurd ((n_le (by omega) (by omega)).mpr (by omega)) w)
    | succ q ih =>
      intro i p N τ hi hp n1 n2 n4 n5 hU
      have b2 : ∀ (p' : Nat) (τ' : MS), p' ≤ i + 1 → PuS g t p' σ τ' → Tm (fun k => x_sift k 2 N τ') (VO g B h t σ) := fun p' τ' hp' hU' => by
        refine Tm_suc (fun k => by rw [x_sift]) ?_
        exact ih (i + 1) p' _ _ (by omega) hp' n1 n2 n4 (by show N 5 + 1 = _; rw [n5, n_add1]) hU'
      refine Tm_suc (fun k => by rw [x_sift]) ?_
      rw [n1, n5, show nI v + 1 = nI (v + 1) from n_add1 v, show nI v + 4 = nI (v + 4) from n_add (q := 4) (by omega), n_add (by omega)]
      refine Tm_chk (n_in (by omega) (by omega)) ?_
      rw [n_cl (p := v + 1) (by omega), hU.2.1 28 (by decide), v1]
      refine Tm_ite (fun w => absurd ((n_le (by omega) (by omega)).mp w) (by omega)) (fun _ => ?_)
      refine Tm_chk (n_in (by omega) (by omega)) ?_
      obtain ⟨y, y1, y2⟩ := v7 i (by omega)
      rw [n_cl (p := v + 4 + i) (by omega), y1]
      refine Tm_ob (s_has (PuS_HS hU hS) hx (by rw [hU.2.1 28 (by decide)]; exact hkx) y2 (by exact n2) rfl) (fun r hr => ?_)
      rw [hr.1, hU.2.1 28 (by decide), y1]
      refine Tm_ite (fun _ => ?_) (fun _ => b2 p τ (by omega) hU)
      refine Tm_chk (n_in2 (by omega) (by omega)) ?_
      exact Tm_ob (PuS_push hU (by omega) y2 rfl) (fun r hr => b2 (p + 1) _ (by omega) hr)
  refine Tm_suc (fun k => by rw [x_sift]) ?_
  rw [hP.2.1]
  exact b1 n 0 0 _ _ (by omega) (Nat.le_refl _) h1 h2 rfl rfl (PuS_0 hP.2.1)
end PLU
