/-! Joined, plus (reference). -/
section PLU
variable {g : Nat → Prop} {l : List Nat} {B h t : Nat} {σ : MS}
/-- the frame of bytes (array 51) -/
def BF (σ τ : MS) : Prop := (∀ j, τ.1 j = σ.1 j) ∧ ∀ j, j ≠ 51 → τ.2.2 j = σ.2.2 j
theorem BF_rf : BF σ σ := ⟨fun _ => rfl, fun _ _ => rfl⟩
theorem BF_51 {τ : MS} {i : Nat} {x : Int32} (hN : BF σ τ) : BF σ (mAr τ 51 i x) := ⟨hN.1, fun j hj => (mAr_o hj).trans (hN.2 j hj)⟩
theorem BF_VP {τ : MS} (hN : BF σ τ) (hP : VP g l B h t σ) : VP g l B h t τ := ⟨HS_c hP.1 (hN.1 54) (hN.1 55) (hN.2 28 (by decide)), (hN.1 59).trans hP.2.1, hP.2.2.1, ErB_c (hN.1 56) hP.2.2.2⟩
theorem BF_VO {τ : MS} {r : Int32 × MS} (hN : BF σ τ) (hP : VP g l B h t σ) (b : VO g B h t τ r) : VO g B h t σ r :=
  VO_tr (τ := τ) (g1 := g) (l1 := l) (h1 := h) ⟨(BF_VP hN hP).1, fun _ z => z, Nat.le_refl _, fun i _ _ => by rw [hN.2 28 (by decide)]⟩ ⟨fun j _ => hN.1 j, fun j hj => hN.2 j (by omega), fun i _ => by rw [hN.2 29 (by decide)]⟩ (fun z => by rw [hN.1 56]; exact z) b
theorem s_joined (hP : VP g l B h t σ) {v x : Nat} (hv : g v) (hx : g x) {L : Nat → Int32} (h1 : L 1 = nI v) (h2 : L 2 = nI x) : Tm (fun k => x_joined k 0 L σ) (VO g B h t σ) := by
  have hS := hP.1
  have hb := HS_b hS
  have hB := hS.2.1
  obtain ⟨n, v1, v2, v3, v4, -, -, -⟩ := ob_at hS hv
  obtain ⟨m, x1, x2, x3, x4, -, -, -⟩ := ob_at hS hx
  have b6 : ∀ (N : Nat → Int32) (τ : MS), N 3 = nI n → N 4 = nI m → BF σ τ → Tm (fun k => x_joined k 6 N τ) (VO g B h t σ) := fun N τ n3 n4 hF => by
    refine Tm_suc (fun k => by rw [x_joined]) ?_
    rw [n3, n4, n_add (by omega)]
    exact Tm_ob (s_stringOf51 (BF_VP hF hP) (f := 0) (n := n + m) (by omega) (fun _ => by omega) rfl rfl) (fun r hr => Tm_some (BF_VO hF hP hr))
  have b4 : ∀ (q i : Nat) (N : Nat → Int32) (τ : MS), q + i = m → N 2 = nI x → N 3 = nI n → N 4 = nI m → N 5 = nI i → BF σ τ → Tm (fun k => x_joined k 4 N τ) (VO g B h t σ) := by
    intro q
    induction q with
    | zero =>
      intro i N τ hi n2 n3 n4 n5 hF
      refine Tm_suc (fun k => by rw [x_joined]) ?_
      rw [n4, n5]
      exact Tm_ite (fun _ => b6 N τ n3 n4 hF) (fun w => absurd ((n_le (by omega) (by omega)).mpr (by omega)) w)
    | succ q ih =>
      intro i N τ hi n2 n3 n4 n5 hF
      refine Tm_suc (fun k => by rw [x_joined]) ?_
      rw [n4, n5, n2, n3, show nI x + 4 = nI (x + 4) from n_add (q := 4) (by omega), n_add (by omega), n_add (by omega)]
      refine Tm_ite (fun w => absurd ((n_le (by omega) (by omega)).mp w) (by omega)) (fun _ => ?_)
      refine Tm_chk (n_in (by omega) (by omega)) ?_
      refine Tm_chk (n_in (by omega) (by omega)) ?_
      rw [n_cl (p := n + i) (by omega)]
      show Tm (fun k => x_joined k 5 N (mAr τ 51 (n + i) (τ.2.2 28 (nI (x + 4 + i)).toNatClampNeg))) _
      refine Tm_suc (fun k => by rw [x_joined]) ?_
      exact ih (i + 1) _ _ (by omega) n2 n3 n4 (by show N 5 + 1 = _; rw [n5, n_add1]) (BF_51 hF)
  have b1 : ∀ (q i : Nat) (N : Nat → Int32) (τ : MS), q + i = n → N 1 = nI v → N 2 = nI x → N 3 = nI n → N 4 = nI m → N 5 = nI i → BF σ τ → Tm (fun k => x_joined k 1 N τ) (VO g B h t σ) := by
    intro q
    induction q with
    | zero =>
      intro i N τ hi n1 n2 n3 n4 n5 hF
      refine Tm_suc (fun k => by rw [x_joined]) ?_
      rw [n3, n5]
      refine Tm_ite (fun _ => ?_) (fun w => absurd ((n_le (by omega) (by omega)).mpr (by omega)) w)
      refine Tm_suc (fun k => by rw [x_joined]) ?_
      exact b4 m 0 _ _ (by omega) n2 n3 n4 rfl hF
    | succ q ih =>
      intro i N τ hi n1 n2 n3 n4 n5 hF
      refine Tm_suc (fun k => by rw [x_joined]) ?_
      rw [n3, n5, n1, show nI v + 4 = nI (v + 4) from n_add (q := 4) (by omega), n_add (by omega)]
      refine Tm_ite (fun w => absurd ((n_le (by omega) (by omega)).mp w) (by omega)) (fun _ => ?_)
      refine Tm_chk (n_in (by omega) (by omega)) ?_
      refine Tm_chk (n_in (by omega) (by omega)) ?_
      rw [n_cl (p := i) (by omega)]
      show Tm (fun k => x_joined k 2 N (mAr τ 51 i (τ.2.2 28 (nI (v + 4 + i)).toNatClampNeg))) _
      refine Tm_suc (fun k => by rw [x_joined]) ?_
      exact ih (i + 1) _ _ (by omega) n1 n2 n3 n4 (by show N 5 + 1 = _; rw [n5, n_add1]) (BF_51 hF)
  refine Tm_suc (fun k => by rw [x_joined]) ?_
  rw [h1, h2, show nI v + 1 = nI (v + 1) from n_add1 v, show nI x + 1 = nI (x + 1) from n_add1 x]
  refine Tm_chk (n_in (by omega) (by omega)) ?_
  refine Tm_chk (n_in (by omega) (by omega)) ?_
  rw [n_cl (p := v + 1) (by omega), n_cl (p := x + 1) (by omega), v1, x1]
  exact b1 n 0 _ _ (by omega) h1 h2 rfl rfl rfl BF_rf
theorem s_plus (hP : VP g l B h t σ) {v x : Nat} (hv : v < 3 ∨ g v) (hx : x < 3 ∨ g x) {L : Nat → Int32} (h1 : L 1 = nI v) (h2 : L 2 = nI x) : Tm (fun k => x_plus k 0 L σ) (VO g B h t σ) := by
  have hS := hP.1
  have hb := HS_b hS
  have hB := hS.2.1
  have ht := hP.2.2.1
  have kv : kdN (σ.2.2 28) v ≤ 6 := by
    by_cases e : 2 ≤ kdN (σ.2.2 28) v
    · obtain ⟨_, _, _, _, _, _, z, _⟩ := ob_at hS (kdN_ge hS hv e)
      exact z.2
    · omega
  have kx : kdN (σ.2.2 28) x ≤ 6 := by
    by_cases e : 2 ≤ kdN (σ.2.2 28) x
    · obtain ⟨_, _, _, _, _, _, z, _⟩ := ob_at hS (kdN_ge hS hx e)
      exact z.2
    · omega
  have b1 : ∀ N : Nat → Int32, Tm (fun k => x_plus k 1 N σ) (VO g B h t σ) := fun N => by
    refine Tm_suc (fun k => by rw [x_plus]) ?_
    refine Tm_ob (s_wrongKind _) (fun r hr => ?_)
    rw [hr]
    exact Tm_some (VO_er hP (e := 1) (by decide))
  refine Tm_suc (fun k => by rw [x_plus]) ?_
  refine Tm_ob (s_kind hS hv (by exact h1)) (fun r hr => ?_)
  rw [hr]
  refine Tm_ob (s_kind hS hx (by exact h2)) (fun r hr => ?_)
  rw [hr]
  have b2 : kdN (σ.2.2 28) v = kdN (σ.2.2 28) x → (kdN (σ.2.2 28) v = 2 ∨ 4 ≤ kdN (σ.2.2 28) v) → ∀ N : Nat → Int32, N 1 = nI v → N 2 = nI x → N 3 = nI (kdN (σ.2.2 28) v) → Tm (fun k => x_plus k 2 N σ) (VO g B h t σ) := by
    intro he hk N n1 n2 n3
    have gv : g v := kdN_ge hS hv (by omega)
    have gx : g x := kdN_ge hS hx (by omega)
    refine Tm_suc (fun k => by rw [x_plus]) ?_
    rw [n3]
    refine Tm_ite (fun w => ?_) (fun w => ?_)
    · have w := (n_eq (q := 2) (by omega) (by decide)).mp w
      obtain ⟨n, hn⟩ := Wh_of hS hv w
      obtain ⟨m, hm⟩ := Wh_of hS hx (by omega)
      exact Tm_ob (s_add hP hn hm (by exact n1) (by exact n2) (Or.inl rfl)) (fun r hr => Tm_some hr)
    refine Tm_suc (fun k => by rw [x_plus]) ?_
    rw [n3]
    refine Tm_ite (fun _ => Tm_ob (s_joined hP gv gx (by exact n1) (by exact n2)) (fun r hr => Tm_some hr)) (fun w2 => ?_)
    have hk5 : 5 ≤ kdN (σ.2.2 28) v := by
      by_cases e : kdN (σ.2.2 28) v = 4
      · exact absurd (by rw [e]; rfl) w2
      · by_cases e2 : kdN (σ.2.2 28) v = 2
        · exact absurd (by rw [e2]; rfl) w
        · omega
    obtain ⟨n, v1, v2, v3, v4, v5, v6, v7⟩ := ob_at hS gv
    obtain ⟨m, x1, x2, x3, x4, x5, x6, x7⟩ := ob_at hS gx
    have v7 := v7 hk5
    have x7 := x7 (by omega)
    have b10 : ∀ (N : Nat → Int32) (r : Int32 × MS), N 100 = r.1 → VO g B h t σ r → Tm (fun k => x_plus k 10 N r.2) (VO g B h t σ) := fun N r hN hr => by
      refine Tm_suc (fun k => by rw [x_plus]) ?_
      rw [hN]
      exact Tm_some hr
    have b8 : ∀ (N : Nat → Int32) (τ : MS), N 4 = nI t → PuS g t (n + m) σ τ → Tm (fun k => x_plus k 8 N τ) (VO g B h t σ) := fun N τ n4 hU => by
      refine Tm_suc (fun k => by rw [x_plus]) ?_
      refine Tm_ite (fun _ => ?_) (fun _ => ?_)
      · exact Tm_ob (PuS_set hU hS hP.2.2.2 (by omega) (by omega) (by exact n4)) (fun r hr => b10 _ r rfl hr)
      · refine Tm_suc (fun k => by rw [x_plus]) ?_
        exact Tm_ob (PuS_tup hU hS hP.2.2.2 (by omega) (by exact n4)) (fun r hr => b10 _ r rfl hr)
    have b7 : ∀ (q i : Nat) (N : Nat → Int32) (τ : MS), q + i = m → N 2 = nI x → N 4 = nI t → N 5 = nI i → PuS g t (n + i) σ τ → Tm (fun k => x_plus k 7 N τ) (VO g B h t σ) := by
      intro q
      induction q with
      | zero =>
        intro i N τ hi n2 n4 n5 hU
        have : i = m := by omega
        subst this
        refine Tm_suc (fun k => by rw [x_plus]) ?_
        rw [n2, n5, show nI x + 1 = nI (x + 1) from n_add1 x]
        refine Tm_chk (n_in (by omega) (by omega)) ?_
        rw [n_cl (p := x + 1) (by omega), hU.2.1 28 (by decide), x1]
        exact Tm_ite (fun _ => b8 N τ n4 hU) (fun w => absurd ((n_le (by omega) (by omega)).mpr (by omega)) w)
      | succ q ih =>
        intro i N τ hi n2 n4 n5 hU
        refine Tm_suc (fun k => by rw [x_plus]) ?_
        rw [n2, n5, show nI x + 1 = nI (x + 1) from n_add1 x, show nI x + 4 = nI (x + 4) from n_add (q := 4) (by omega), n_add (by omega)]
        refine Tm_chk (n_in (by omega) (by omega)) ?_
        rw [n_cl (p := x + 1) (by omega), hU.2.1 28 (by decide), x1]
        refine Tm_ite (fun w => absurd ((n_le (by omega) (by omega)).mp w) (by omega)) (fun _ => ?_)
        refine Tm_chk (n_in (by omega) (by omega)) ?_
        obtain ⟨y, y1, y2⟩ := x7 i (by omega)
        rw [n_cl (p := x + 4 + i) (by omega), y1]
        exact Tm_ob (PuS_push hU (by omega) y2 rfl) (fun r hr => ih (i + 1) _ _ (by omega) n2 n4 (n_add1 i) hr)
    have b5 : ∀ (q i : Nat) (N : Nat → Int32) (τ : MS), q + i = n → N 1 = nI v → N 2 = nI x → N 4 = nI t → N 5 = nI i → PuS g t i σ τ → Tm (fun k => x_plus k 5 N τ) (VO g B h t σ) := by
      intro q
      induction q with
      | zero =>
        intro i N τ hi n1 n2 n4 n5 hU
        have : i = n := by omega
        subst this
        refine Tm_suc (fun k => by rw [x_plus]) ?_
        rw [n1, n5, show nI v + 1 = nI (v + 1) from n_add1 v]
        refine Tm_chk (n_in (by omega) (by omega)) ?_
        rw [n_cl (p := v + 1) (by omega), hU.2.1 28 (by decide), v1]
        refine Tm_ite (fun _ => ?_) (fun w => absurd ((n_le (by omega) (by omega)).mpr (by omega)) w)
        refine Tm_suc (fun k => by rw [x_plus]) ?_
        exact b7 m 0 _ _ (by omega) n2 n4 rfl hU
      | succ q ih =>
        intro i N τ hi n1 n2 n4 n5 hU
        refine Tm_suc (fun k => by rw [x_plus]) ?_
        rw [n1, n5, show nI v + 1 = nI (v + 1) from n_add1 v, show nI v + 4 = nI (v + 4) from n_add (q := 4) (by omega), n_add (by omega)]
        refine Tm_chk (n_in (by omega) (by omega)) ?_
        rw [n_cl (p := v + 1) (by omega), hU.2.1 28 (by decide), v1]
        refine Tm_ite (fun w => absurd ((n_le (by omega) (by omega)).mp w) (by omega)) (fun _ => ?_)
        refine Tm_chk (n_in (by omega) (by omega)) ?_
        obtain ⟨y, y1, y2⟩ := v7 i (by omega)
        rw [n_cl (p := v + 4 + i) (by omega), y1]
        exact Tm_ob (PuS_push hU (by omega) y2 rfl) (fun r hr => ih (i + 1) _ _ (by omega) n1 n2 n4 (n_add1 i) hr)
    refine Tm_suc (fun k => by rw [x_plus]) ?_
    rw [hP.2.1]
    exact b5 n 0 _ _ (by omega) n1 n2 rfl rfl (PuS_0 hP.2.1)
  refine Tm_ite (fun w => ?_) (fun _ => b1 _)
  have w := (n_eq (by omega) (by omega)).mp w
  refine Tm_ite (fun w2 => b2 w (Or.inl ((n_eq (q := 2) (by omega) (by decide)).mp w2)) _ h1 h2 rfl) (fun _ => ?_)
  exact Tm_ite (fun w2 => b2 w (Or.inr ((n_le (p := 4) (by decide) (by omega)).mp w2)) _ h1 h2 rfl) (fun _ => b1 _)
end PLU
