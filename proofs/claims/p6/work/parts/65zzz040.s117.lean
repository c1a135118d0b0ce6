/-! Repeat; operate (reference). -/
section OPE
variable {g : Nat → Prop} {l : List Nat} {B h t : Nat} {σ : MS}
theorem n_mulN (a b : Nat) : nI a * nI b = nI (a * b) := (Int32.ofNat_mul a b).symm
theorem w_mul {a b : Nat} (ha : a ≤ 65535) (hb : b ≤ 65535) : ((nI a).toInt64 * (nI b).toInt64).toInt = ((a * b : Nat) : Int) := by
  have hab : a * b ≤ 65535 * 65535 := Nat.mul_le_mul ha hb
  rw [Int64.toInt_mul, w_int (by omega), w_int (by omega), ← Int.natCast_mul]
  exact Int.bmod_eq_of_le (by omega) (by omega)
theorem n_rem {i n : Nat} (hi : i < 2147483648) (hn : 0 < n) (hn2 : n < 2147483648) : ∃ j, j < n ∧ nI i - nI i / nI n * nI n = nI j := by
  refine ⟨i % n, Nat.mod_lt _ hn, ?_⟩
  have h1 : i / n * n ≤ i := Nat.div_mul_le_self i n
  have h2 := Nat.div_add_mod i n
  rw [Nat.mul_comm] at h2
  rw [n_div hi hn hn2, n_mulN, n_sub hi h1]
  congr 1
  omega
theorem s_repeat (hP : VP g l B h t σ) {v x : Nat} (hv : g v) (hk : kdN (σ.2.2 28) v = 4 ∨ kdN (σ.2.2 28) v = 5) (hx : g x) (hkx : kdN (σ.2.2 28) x = 2) {L : Nat → Int32} (h1 : L 1 = nI v) (h2 : L 2 = nI x) : Tm (fun k => x_repeat k 0 L σ) (VO g B h t σ) := by
  have hS := hP.1
  have hb := HS_b hS
  have hB := hS.2.1
  have ht := hP.2.2.1
  obtain ⟨n, v1, v2, v3, v4, v5, v6, v7⟩ := ob_at hS hv
  obtain ⟨w, hw⟩ := Wh_of hS (Or.inr hx) hkx
  have hwb := hw.2.2.2.1
  have hw1 := hw.2.1
  have b4 : ∀ (y : Nat) (N : Nat → Int32), n * y ≤ 8000 → N 1 = nI v → N 3 = nI n → N 4 = nI y → Tm (fun k => x_repeat k 4 N σ) (VO g B h t σ) := by
    intro y N hny n1 n3 n4
    have b5 : ∀ (q i : Nat) (N : Nat → Int32) (τ : MS), q + i = n * y → N 1 = nI v → N 3 = nI n → N 4 = nI y → N 5 = nI i → BF σ τ → Tm (fun k => x_repeat k 5 N τ) (VO g B h t σ) := by
      intro q
      induction q with
      | zero =>
        intro i N τ hi n1 n3 n4 n5 hF
        refine Tm_suc (fun k => by rw [x_repeat]) ?_
        rw [n3, n4, n5, n_mulN]
        refine Tm_ite (fun _ => ?_) (fun w => absurd ((n_le (by omega) (by omega)).mpr (by omega)) w)
        refine Tm_suc (fun k => by rw [x_repeat]) ?_
        rw [n3, n4, n_mulN]
        exact Tm_ob (s_stringOf51 (BF_VP hF hP) (f := 0) (n := n * y) (by omega) (fun _ => by omega) rfl rfl) (fun r hr => Tm_some (BF_VO hF hP hr))
      | succ q ih =>
        intro i N τ hi n1 n3 n4 n5 hF
        have hn0 : 0 < n := by
          by_cases e : n = 0
          · rw [e, Nat.zero_mul] at hi; omega
          · omega
        obtain ⟨j, j1, j2⟩ := n_rem (i := i) (n := n) (by omega) hn0 (by omega)
        refine Tm_suc (fun k => by rw [x_repeat]) ?_
        rw [n3, n4, n5, n_mulN, n1, j2, show nI v + 4 = nI (v + 4) from n_add (q := 4) (by omega), n_add (by omega)]
        refine Tm_ite (fun w => absurd ((n_le (by omega) (by omega)).mp w) (by omega)) (fun _ => ?_)
        refine Tm_chk0 (fun z => absurd ((n_eq (q := 0) (by omega) (by decide)).mp z) (by omega)) ?_
        refine Tm_chk (n_in (by omega) (by omega)) ?_
        refine Tm_chk (n_in (by omega) (by omega)) ?_
        rw [n_cl (p := i) (by omega)]
        show Tm (fun k => x_repeat k 6 N (mAr τ 51 i (τ.2.2 28 (nI (v + 4 + j)).toNatClampNeg))) _
        refine Tm_suc (fun k => by rw [x_repeat]) ?_
        exact ih (i + 1) _ _ (by omega) n1 n3 n4 (by show N 5 + 1 = _; rw [n5, n_add1]) (BF_51 hF)
    have b9 : (5 ≤ kdN (σ.2.2 28) v) → ∀ (q i : Nat) (N : Nat → Int32) (τ : MS), q + i = n * y → N 1 = nI v → N 3 = nI n → N 4 = nI y → N 5 = nI t → N 6 = nI i → PuS g t i σ τ → Tm (fun k => x_repeat k 9 N τ) (VO g B h t σ) := by
      intro hk5
      have v7 := v7 hk5
      intro q
      induction q with
      | zero =>
        intro i N τ hi n1 n3 n4 n5 n6 hU
        refine Tm_suc (fun k => by rw [x_repeat]) ?_
        rw [n3, n4, n6, n_mulN]
        refine Tm_ite (fun _ => ?_) (fun w => absurd ((n_le (by omega) (by omega)).mpr (by omega)) w)
        refine Tm_suc (fun k => by rw [x_repeat]) ?_
        exact Tm_ob (PuS_tup hU hS hP.2.2.2 (by omega) (by exact n5)) (fun r hr => Tm_some hr)
      | succ q ih =>
        intro i N τ hi n1 n3 n4 n5 n6 hU
        have hn0 : 0 < n := by
          by_cases e : n = 0
          · rw [e, Nat.zero_mul] at hi; omega
          · omega
        obtain ⟨j, j1, j2⟩ := n_rem (i := i) (n := n) (by omega) hn0 (by omega)
        refine Tm_suc (fun k => by rw [x_repeat]) ?_
        rw [n3, n4, n6, n_mulN, n1, j2, show nI v + 4 = nI (v + 4) from n_add (q := 4) (by omega), n_add (by omega)]
        refine Tm_ite (fun w => absurd ((n_le (by omega) (by omega)).mp w) (by omega)) (fun _ => ?_)
        refine Tm_chk0 (fun z => absurd ((n_eq (q := 0) (by omega) (by decide)).mp z) (by omega)) ?_
        refine Tm_chk (n_in (by omega) (by omega)) ?_
        obtain ⟨z, z1, z2⟩ := v7 j (by omega)
        rw [n_cl (p := v + 4 + j) (by omega), hU.2.1 28 (by decide), z1]
        exact Tm_ob (PuS_push hU (by omega) z2 rfl) (fun r hr => ih (i + 1) _ _ (by omega) n1 n3 n4 n5 (n_add1 i) hr)
    refine Tm_suc (fun k => by rw [x_repeat]) ?_
    rw [n1]
    refine Tm_chk (n_in (by omega) (by omega)) ?_
    rw [n_cl (p := v) (by omega), v5]
    refine Tm_ite (fun _ => ?_) (fun z => ?_)
    · exact b5 (n * y) 0 _ _ (by omega) n1 n3 n4 rfl BF_rf
    · have hk5 : 5 ≤ kdN (σ.2.2 28) v := by
        by_cases e : kdN (σ.2.2 28) v = 4
        · exact absurd (by rw [e]; rfl) z
        · omega
      refine Tm_suc (fun k => by rw [x_repeat]) ?_
      rw [hP.2.1]
      exact b9 hk5 (n * y) 0 _ _ (by omega) n1 n3 n4 rfl rfl (PuS_0 hP.2.1)
  have b3 : ∀ (y : Nat) (N : Nat → Int32), y ≤ 5001 → N 1 = nI v → N 3 = nI n → N 100 = nI y → Tm (fun k => x_repeat k 3 N σ) (VO g B h t σ) := by
    intro y N hy n1 n3 n100
    refine Tm_suc (fun k => by rw [x_repeat]) ?_
    rw [n3, n100]
    refine Tm_ite (fun z => ?_) (fun _ => ?_)
    · have z := w_cmp.mp z
      rw [w_mul (by omega) (by omega)] at z
      have z : ((n * y : Nat) : Int) ≤ 8000 := z
      exact b4 y _ (by omega) n1 n3 rfl
    · refine Tm_ob (s_fail _ σ) (fun r hr => ?_)
      rw [hr]
      exact Tm_some (VO_er hP (e := 5) (by decide))
  refine Tm_suc (fun k => by rw [x_repeat]) ?_
  refine Tm_ob (s_signOf hS (m := x) (by omega) (by exact h2)) (fun r hr => ?_)
  rw [hr]
  refine Tm_ite (fun z0 => ?_) (fun _ => ?_)
  · refine Tm_suc (fun k => by rw [x_repeat]) ?_
    rw [h1, show nI v + 1 = nI (v + 1) from n_add1 v]
    refine Tm_chk (n_in (by omega) (by omega)) ?_
    rw [n_cl (p := v + 1) (by omega), v1]
    refine Tm_ite (fun _ => b3 0 _ (by omega) h1 rfl rfl) (fun _ => ?_)
    refine Tm_suc (fun k => by rw [x_repeat]) ?_
    refine Tm_ob (s_intOf hS hw (b := 5000) (by decide) (by exact h2) rfl) (fun r hr => ?_)
    obtain ⟨r1, y, y1, y2, y3⟩ := hr
    rw [r1]
    exact b3 y _ y1 h1 rfl (y3 z0)
  · refine Tm_ob (s_fail _ σ) (fun r hr => ?_)
    rw [hr]
    exact Tm_some (VO_er hP (e := 4) (by decide))
end OPE
