/-! Values are printed (reference). -/
theorem xN_0 (k d b : Nat) (L : Nat → Int32) (σ : MS) : x_GN (k + 1) d 0 b L σ = s_putNumber (x_GN k) k d b L σ := rfl
theorem xP_0 (k d b : Nat) (L : Nat → Int32) (σ : MS) : x_GP (k + 1) d 0 b L σ = s_print (x_GP k) k d b L σ := rfl
theorem s_putNum : ∀ (e d x p : Nat) (σ : MS) (L : Nat → Int32), e ≤ d → x < 10 ^ (e + 1) → x < 2147483648 → σ.1 93 = nI p → p + e + 1 ≤ 12000 → L 1 = nI x → Tm (fun k => x_GN k d 0 0 L σ) (PrO σ p (p + e + 1))
  | e, d, x, p, σ, L, hed, hx, hx2, h93, hp, hL => by
    have l1 : ∀ (q : Nat) (τ : MS), PrF σ τ → τ.1 93 = nI q → p ≤ q → q ≤ p + e → Tm (fun k => x_GN k d 0 1 L τ) (PrO σ p (p + e + 1)) := fun q τ hF t93 h1 h2 => by
      refine Tm_suc (fun k => by rw [xN_0]) ?_
      refine Tm_chk0 (c := (10 : Int32) = 0) (by decide) ?_
      refine Tm_ob (s_put t93 (by omega) _) (fun r hr => ?_)
      exact Tm_some ⟨PrF_tr hF hr.1, q + 1, hr.2.1, by omega, by omega⟩
    refine Tm_suc (fun k => by rw [xN_0]) ?_
    show Tm (fun k => if L 1 ≤ 9 then x_GN k d 0 1 L σ else (if (10 : Int32) = 0 then none else od d (fun e3 => ob (x_GN k e3 0 0 (upd (fun _ => 0) 1 (L 1 / 10)) σ) (fun r3 => x_GN k d 0 1 L r3.2)))) _
    rw [hL]
    refine Tm_ite (fun _ => l1 p σ PrF_rf h93 (Nat.le_refl _) (by omega)) (fun z => ?_)
    have z : 9 < x := by
      by_cases c : x ≤ 9
      · exact absurd ((n_le (q := 9) (by omega) (by decide)).mpr c) z
      · omega
    refine Tm_chk0 (c := (10 : Int32) = 0) (by decide) ?_
    rw [(n_mod10 hx2).2]
    match e, d, hed, hx, hp, l1 with
    | 0, d, _, hx, _, _ => exact absurd hx (by omega)
    | e + 1, 0, h, _, _, _ => exact absurd h (by omega)
    | e + 1, d + 1, hed, hx, hp, l1 =>
      show Tm (fun k => ob (x_GN k d 0 0 (upd (fun _ => 0) 1 (nI (x / 10))) σ) (fun r3 => x_GN k (d + 1) 0 1 L r3.2)) _
      have hp10 : 10 ^ (e + 1 + 1) = 10 * 10 ^ (e + 1) := by rw [Nat.pow_succ, Nat.mul_comm]
      refine Tm_ob (s_putNum e d (x / 10) p σ _ (by omega) (by omega) (by omega) h93 (by omega) rfl) (fun r hr => ?_)
      obtain ⟨hF, q, h1, h2, h3⟩ := hr
      exact l1 q r.2 hF h1 h2 (by omega)
theorem s_putTruth {σ : MS} {p : Nat} (h93 : σ.1 93 = nI p) (hp : p + 5 ≤ 12000) (L : Nat → Int32) : Tm (fun k => x_putTruth k 0 L σ) (PrO σ p (p + 5)) := by
  have l9 : ∀ (q : Nat) (N : Nat → Int32) (τ : MS), PrF σ τ → τ.1 93 = nI q → p ≤ q → q ≤ p + 5 → Tm (fun k => x_putTruth k 9 N τ) (PrO σ p (p + 5)) := fun q N τ hF t93 h1 h2 => by
    refine Tm_suc (fun k => by rw [x_putTruth]) ?_
    exact Tm_some ⟨hF, q, t93, h1, h2⟩
  have l8 : ∀ (q : Nat) (N : Nat → Int32) (τ : MS), PrF σ τ → τ.1 93 = nI q → p ≤ q → q ≤ p + 3 → Tm (fun k => x_putTruth k 8 N τ) (PrO σ p (p + 5)) := fun q N τ hF t93 h1 h2 => by
    refine Tm_suc (fun k => by rw [x_putTruth]) ?_
    refine Tm_ob (s_put t93 (by omega) _) (fun r hr => ?_)
    refine Tm_ite (fun _ => ?_) (fun _ => l9 (q + 1) N r.2 (PrF_tr hF hr.1) hr.2.1 (by omega) (by omega))
    refine Tm_ob (s_put hr.2.1 (by omega) _) (fun r2 hr2 => ?_)
    exact l9 (q + 1 + 1) N r2.2 (PrF_tr hF (PrF_tr hr.1 hr2.1)) hr2.2.1 (by omega) (by omega)
  have l6 : ∀ (q : Nat) (N : Nat → Int32) (τ : MS), PrF σ τ → τ.1 93 = nI q → p ≤ q → q ≤ p + 2 → Tm (fun k => x_putTruth k 6 N τ) (PrO σ p (p + 5)) := fun q N τ hF t93 h1 h2 => by
    refine Tm_suc (fun k => by rw [x_putTruth]) ?_
    refine Tm_ob (s_put t93 (by omega) _) (fun r hr => ?_)
    refine Tm_ite (fun _ => ?_) (fun _ => l8 (q + 1) _ r.2 (PrF_tr hF hr.1) hr.2.1 (by omega) (by omega))
    refine Tm_suc (fun k => by rw [x_putTruth]) ?_
    exact l8 (q + 1) _ r.2 (PrF_tr hF hr.1) hr.2.1 (by omega) (by omega)
  have l4 : ∀ (q : Nat) (N : Nat → Int32) (τ : MS), PrF σ τ → τ.1 93 = nI q → p ≤ q → q ≤ p + 1 → Tm (fun k => x_putTruth k 4 N τ) (PrO σ p (p + 5)) := fun q N τ hF t93 h1 h2 => by
    refine Tm_suc (fun k => by rw [x_putTruth]) ?_
    refine Tm_ob (s_put t93 (by omega) _) (fun r hr => ?_)
    refine Tm_ite (fun _ => ?_) (fun _ => l6 (q + 1) _ r.2 (PrF_tr hF hr.1) hr.2.1 (by omega) (by omega))
    refine Tm_suc (fun k => by rw [x_putTruth]) ?_
    exact l6 (q + 1) _ r.2 (PrF_tr hF hr.1) hr.2.1 (by omega) (by omega)
  have l2 : ∀ N : Nat → Int32, Tm (fun k => x_putTruth k 2 N σ) (PrO σ p (p + 5)) := fun N => by
    refine Tm_suc (fun k => by rw [x_putTruth]) ?_
    refine Tm_ob (s_put h93 (by omega) _) (fun r hr => ?_)
    refine Tm_ite (fun _ => ?_) (fun _ => l4 (p + 1) _ r.2 hr.1 hr.2.1 (by omega) (by omega))
    refine Tm_suc (fun k => by rw [x_putTruth]) ?_
    exact l4 (p + 1) _ r.2 hr.1 hr.2.1 (by omega) (by omega)
  refine Tm_suc (fun k => by rw [x_putTruth]) ?_
  refine Tm_ite (fun _ => ?_) (fun _ => l2 _)
  refine Tm_suc (fun k => by rw [x_putTruth]) ?_
  exact l2 _
section PRI
variable {g : Nat → Prop} {l : List Nat} {B h : Nat}
theorem smS_mono {H : Nat → Int32} {v k n : Nat} (h : k ≤ n) : smS H v k ≤ smS H v n := by
  induction n with
  | zero => rw [show k = 0 by omega]; exact Nat.le_refl _
  | succ n ih =>
    by_cases e : k = n + 1
    · rw [e]; exact Nat.le_refl _
    · have := ih (by omega)
      have v : smS H v (n + 1) = smS H v n + szN H (H (v + 4 + n)).toNatClampNeg := rfl
      omega
/-- a value: no more bytes than ten times its size -/
theorem s_prt1 {σ : MS} (hS : HS g l B h σ) {d : Nat} (hrec : ∀ e, d = e + 1 → ∀ (τ : MS) (a p : Nat) (L : Nat → Int32), PrF σ τ → (a < 3 ∨ g a) → htN (σ.2.2 28) a ≤ e → τ.1 93 = nI p → p + 10 * szN (σ.2.2 28) a ≤ 12000 → L 1 = nI a → Tm (fun k => x_GP k e 0 0 L τ) (PrO τ p (p + 10 * szN (σ.2.2 28) a - 2)))
    {τ : MS} {a p : Nat} {L : Nat → Int32} (hF : PrF σ τ) (ha : a < 3 ∨ g a) (hd : htN (σ.2.2 28) a ≤ d) (h93 : τ.1 93 = nI p) (hp : p + 10 * szN (σ.2.2 28) a ≤ 12000) (h1 : L 1 = nI a) : Tm (fun k => x_GP k d 0 0 L τ) (PrO τ p (p + 10 * szN (σ.2.2 28) a - 2)) := by
  have hSt := PrF_HS hF hS
  have hB := HS_b hS
  have ba := HS_vb hS ha
  have hs1 := (szN_b hS ha).1
  have t28 : τ.2.2 28 = σ.2.2 28 := hF.2 28 (by decide)
  have l18 : ∀ (q : Nat) (N : Nat → Int32) (υ : MS), PrF τ υ → υ.1 93 = nI q → p ≤ q → q + 2 ≤ p + 10 * szN (σ.2.2 28) a → Tm (fun k => x_GP k d 0 18 N υ) (PrO τ p (p + 10 * szN (σ.2.2 28) a - 2)) := fun q N υ hFu u93 h1 h2 => by
    refine Tm_suc (fun k => by rw [xP_0]) ?_
    exact Tm_some ⟨hFu, q, u93, h1, by omega⟩
  refine Tm_suc (fun k => by rw [xP_0]) ?_
  refine Tm_ob (s_kind hSt ha (by exact h1)) (fun r0 hr0 => ?_)
  rw [hr0, t28]
  by_cases c0 : a = 0
  · have k0 : kdN (σ.2.2 28) a = 0 := by unfold kdN; rw [if_pos c0]
    rw [k0]
    refine Tm_ite (fun _ => ?_) (fun z => absurd rfl z)
    refine Tm_ob (s_put h93 (by omega) _) (fun r1 hr1 => ?_)
    refine Tm_ob (s_put hr1.2.1 (by omega) _) (fun r2 hr2 => ?_)
    exact l18 (p + 1 + 1) _ r2.2 (PrF_tr hr1.1 hr2.1) hr2.2.1 (by omega) (by omega)
  by_cases c3 : a < 3
  · have k1 : kdN (σ.2.2 28) a = 1 := by unfold kdN; rw [if_neg c0, if_pos c3]
    rw [k1]
    refine Tm_ite (fun z => absurd z (show ¬ nI 1 = 0 by decide)) (fun _ => ?_)
    have l3 : ∀ N : Nat → Int32, Tm (fun k => x_GP k d 0 3 N τ) (PrO τ p (p + 10 * szN (σ.2.2 28) a - 2)) := fun N => by
      refine Tm_suc (fun k => by rw [xP_0]) ?_
      refine Tm_ob (s_putTruth h93 (by omega) _) (fun r1 hr1 => ?_)
      obtain ⟨hF1, q, e1, e2, e3⟩ := hr1
      exact l18 q _ r1.2 hF1 e1 e2 (by omega)
    refine Tm_suc (fun k => by rw [xP_0]) ?_
    refine Tm_ite (c := L 1 = 2) (fun _ => l3 _) (fun _ => ?_)
    refine Tm_suc (fun k => by rw [xP_0]) ?_
    exact l3 _
  obtain ⟨k, n, s, u, g1, g2, g3⟩ := HS_at hS (ha.resolve_left c3)
  have hk := g1.2.2.2.2.1
  have hsz : szN (σ.2.2 28) a = s := by
    unfold szN
    rw [if_neg c3, g1.2.2.1, n_cl (by have := g1.2.2.2.2.2.1; omega)]
  have hht : htN (σ.2.2 28) a = u := by
    unfold htN
    rw [if_neg c3, g1.2.2.2.1, n_cl (by have := g1.2.2.2.2.2.2.1; omega)]
  have hkd : kdN (σ.2.2 28) a = k := by
    unfold kdN
    rw [if_neg c0, if_neg c3, g1.1, n_cl (by omega)]
  have hn := g1.2.2.2.2.2.2.2.1
  rw [hsz] at hp l18 ⊢
  rw [hht] at hd
  rw [hkd]
  refine Tm_ite (fun z => absurd ((n_eq0 (by omega)).mp z) (by omega)) (fun _ => ?_)
  have m1 : upd L 3 (nI k) 1 = nI a := h1
  have m3 : upd L 3 (nI k) 3 = nI k := rfl
  have m2 : upd L 3 (nI k) 2 = L 2 := rfl
  generalize upd L 3 (nI k) = N at m1 m2 m3
  refine Tm_suc (fun k => by rw [xP_0]) ?_
  show Tm (fun f => if N 3 = 1 then (if N 1 = 2 then x_GP f d 0 3 (upd N 100 1) τ else x_GP f d 0 2 N τ) else x_GP f d 0 4 N τ) _
  rw [m3]
  refine Tm_ite (fun z => absurd ((n_eq (q := 1) (by omega) (by decide)).mp z) (by omega)) (fun _ => ?_)
  refine Tm_suc (fun k => by rw [xP_0]) ?_
  show Tm (fun f => if N 3 = 2 then ob (x_putWhole f 0 (upd (fun _ => 0) 1 (N 1)) τ) (fun r2 => x_GP f d 0 18 N r2.2) else x_GP f d 0 5 N τ) _
  rw [m3, m1]
  refine Tm_ite (fun z => ?_) (fun z2 => ?_)
  · have z := (n_eq (q := 2) (by omega) (by decide)).mp z
    obtain ⟨w1, w2, w3, w4⟩ := g1.2.2.2.2.2.2.2.2.1 z
    have hW : Wh τ a n := by
      unfold Wh; rw [t28]; exact ⟨g1.2.1, w1, w2, by omega, w4⟩
    refine Tm_ob (s_putWhole hSt hW h93 (by omega) rfl) (fun r1 hr1 => ?_)
    obtain ⟨hF1, q, e1, e2, e3⟩ := hr1
    exact l18 q _ r1.2 hF1 e1 e2 (by omega)
  have z2 : ¬ k = 2 := fun c => z2 (by rw [c]; rfl)
  refine Tm_suc (fun k => by rw [xP_0]) ?_
  show Tm (fun f => if N 3 = 3 then ob (x_put f 0 (upd (fun _ => 0) 1 35) τ) (fun r2 => if ¬ (N 1 + 4 < 0 ∨ 1740000 ≤ (N 1 + 4).toNatClampNeg) then ob (x_putNumber f 0 (upd (fun _ => 0) 1 (r2.2.2.2 28 (N 1 + 4).toNatClampNeg)) r2.2) (fun r4 => x_GP f d 0 18 N r4.2) else none) else x_GP f d 0 6 N τ) _
  rw [m3, m1]
  refine Tm_ite (fun z => ?_) (fun z3 => ?_)
  · have z := (n_eq (q := 3) (by omega) (by decide)).mp z
    obtain ⟨w1, w2, x, w3, w4⟩ := g1.2.2.2.2.2.2.2.2.2.1 z
    refine Tm_ob (s_put h93 (by omega) _) (fun r1 hr1 => ?_)
    rw [show nI a + 4 = nI (a + 4) from n_add (q := 4) (by omega)]
    refine Tm_chk (n_in (by omega) (by omega)) ?_
    rw [n_cl (p := a + 4) (by omega), hr1.1.2 28 (by decide), t28, w4]
    refine Tm_ob (show Tm (fun k => x_putNumber k 0 (upd (fun _ => 0) 1 (nI x)) r1.2) (PrO r1.2 (p + 1) (p + 1 + 6 + 1)) from ?_) (fun r2 hr2 => ?_)
    · exact s_putNum 6 12 x (p + 1) r1.2 _ (by decide) (by omega) (by omega) hr1.2.1 (by omega) rfl
    · obtain ⟨hF1, q, e1, e2, e3⟩ := hr2
      exact l18 q _ r2.2 (PrF_tr hr1.1 hF1) e1 (by omega) (by omega)
  have z3 : ¬ k = 3 := fun c => z3 (by rw [c]; rfl)
  refine Tm_suc (fun k => by rw [xP_0]) ?_
  show Tm (fun f => if N 3 = 4 then (if N 2 = 0 then ob (x_put f 0 (upd (fun _ => 0) 1 34) τ) (fun r3 => x_GP f d 0 7 N r3.2) else x_GP f d 0 7 N τ) else x_GP f d 0 10 N τ) _
  rw [m3]
  refine Tm_ite (fun z => ?_) (fun z4 => ?_)
  · -- a string
    have z := (n_eq (q := 4) (by omega) (by decide)).mp z
    have hs4 := g1.2.2.2.2.2.2.2.2.2.2.1 z
    have l9 : ∀ (q : Nat) (M : Nat → Int32) (υ : MS), PrF τ υ → υ.1 93 = nI q → p ≤ q → q ≤ p + 1 + n → Tm (fun f => x_GP f d 0 9 M υ) (PrO τ p (p + 10 * s - 2)) := fun q M υ hFu u93 h1 h2 => by
      refine Tm_suc (fun k => by rw [xP_0]) ?_
      refine Tm_ite (c := M 2 = 0) (fun _ => ?_) (fun _ => l18 q M υ hFu u93 h1 (by omega))
      refine Tm_ob (s_put u93 (by omega) _) (fun r hr => ?_)
      exact l18 (q + 1) M r.2 (PrF_tr hFu hr.1) hr.2.1 (by omega) (by omega)
    have l8 : ∀ (j i q : Nat) (M : Nat → Int32) (υ : MS), j + i = n → M 1 = nI a → M 4 = nI i → PrF τ υ → υ.1 93 = nI q → p ≤ q → q ≤ p + 1 + i → Tm (fun f => x_GP f d 0 8 M υ) (PrO τ p (p + 10 * s - 2)) := by
      intro j
      induction j with
      | zero =>
        intro i q M υ hi q1 q4 hFu u93 h1 h2
        refine Tm_suc (fun k => by rw [xP_0]) ?_
        show Tm (fun f => if ¬ (M 1 + 1 < 0 ∨ 1740000 ≤ (M 1 + 1).toNatClampNeg) then (if υ.2.2 28 (M 1 + 1).toNatClampNeg ≤ M 4 then x_GP f d 0 9 M υ else (if ¬ (M 1 + 4 + M 4 < 0 ∨ 1740000 ≤ (M 1 + 4 + M 4).toNatClampNeg) then ob (x_put f 0 (upd (fun _ => 0) 1 (υ.2.2 28 (M 1 + 4 + M 4).toNatClampNeg)) υ) (fun r4 => x_GP f d 0 8 (upd M 4 (M 4 + 1)) r4.2) else none)) else none) _
        rw [q1, q4, n_add1]
        refine Tm_chk (n_in (by omega) (by omega)) ?_
        rw [n_cl (p := a + 1) (by omega), hFu.2 28 (by decide), t28, g1.2.1]
        exact Tm_ite (fun _ => l9 q M υ hFu u93 h1 (by omega)) (fun w => absurd ((n_le (by omega) (by omega)).mpr (by omega)) w)
      | succ j ih =>
        intro i q M υ hi q1 q4 hFu u93 h1 h2
        refine Tm_suc (fun k => by rw [xP_0]) ?_
        show Tm (fun f => if ¬ (M 1 + 1 < 0 ∨ 1740000 ≤ (M 1 + 1).toNatClampNeg) then (if υ.2.2 28 (M 1 + 1).toNatClampNeg ≤ M 4 then x_GP f d 0 9 M υ else (if ¬ (M 1 + 4 + M 4 < 0 ∨ 1740000 ≤ (M 1 + 4 + M 4).toNatClampNeg) then ob (x_put f 0 (upd (fun _ => 0) 1 (υ.2.2 28 (M 1 + 4 + M 4).toNatClampNeg)) υ) (fun r4 => x_GP f d 0 8 (upd M 4 (M 4 + 1)) r4.2) else none)) else none) _
        rw [q1, q4, n_add1, n_add1, show nI a + 4 = nI (a + 4) from n_add (q := 4) (by omega), n_add (by omega)]
        refine Tm_chk (n_in (by omega) (by omega)) ?_
        rw [n_cl (p := a + 1) (by omega), hFu.2 28 (by decide), t28, g1.2.1]
        refine Tm_ite (fun w => absurd ((n_le (by omega) (by omega)).mp w) (by omega)) (fun _ => ?_)
        refine Tm_chk (n_in (by omega) (by omega)) ?_
        refine Tm_ob (s_put u93 (by omega) _) (fun r hr => ?_)
        exact ih (i + 1) (q + 1) _ r.2 (by omega) q1 rfl (PrF_tr hFu hr.1) hr.2.1 (by omega) (by omega)
    have l7 : ∀ (q : Nat) (υ : MS), PrF τ υ → υ.1 93 = nI q → p ≤ q → q ≤ p + 1 → Tm (fun f => x_GP f d 0 7 N υ) (PrO τ p (p + 10 * s - 2)) := fun q υ hFu u93 h1 h2 => by
      refine Tm_suc (fun k => by rw [xP_0]) ?_
      exact l8 n 0 q _ υ (by omega) m1 rfl hFu u93 h1 (by omega)
    refine Tm_ite (fun _ => ?_) (fun _ => l7 p τ PrF_rf h93 (Nat.le_refl _) (by omega))
    refine Tm_ob (s_put h93 (by omega) _) (fun r hr => ?_)
    exact l7 (p + 1) r.2 hr.1 hr.2.1 (by omega) (by omega)
  -- a row
  have z4 : ¬ k = 4 := fun c => z4 (by rw [c]; rfl)
  obtain ⟨r1, r2⟩ := g1.2.2.2.2.2.2.2.2.2.2.2 (by omega)
  have l17 : ∀ (q : Nat) (M : Nat → Int32) (υ : MS), PrF τ υ → υ.1 93 = nI q → p ≤ q → q + 3 ≤ p + 10 * s → Tm (fun f => x_GP f d 0 17 M υ) (PrO τ p (p + 10 * s - 2)) := fun q M υ hFu u93 h1 h2 => by
    refine Tm_suc (fun k => by rw [xP_0]) ?_
    refine Tm_ob (s_put u93 (by omega) _) (fun r hr => ?_)
    exact l18 (q + 1) M r.2 (PrF_tr hFu hr.1) hr.2.1 (by omega) (by omega)
  have l15 : ∀ (q : Nat) (M : Nat → Int32) (υ : MS), PrF τ υ → υ.1 93 = nI q → p ≤ q → q + 3 ≤ p + 10 * s → Tm (fun f => x_GP f d 0 15 M υ) (PrO τ p (p + 10 * s - 2)) := fun q M υ hFu u93 h1 h2 => by
    refine Tm_suc (fun k => by rw [xP_0]) ?_
    refine Tm_ite (c := M 3 = 6) (fun _ => l17 q _ υ hFu u93 h1 h2) (fun _ => ?_)
    refine Tm_suc (fun k => by rw [xP_0]) ?_
    exact l17 q _ υ hFu u93 h1 h2
  have l13 : ∀ (j i q : Nat) (M : Nat → Int32) (υ : MS), j + i = n → M 1 = nI a → M 4 = nI i → PrF τ υ → υ.1 93 = nI q → p ≤ q → q ≤ p + 1 + 10 * smS (σ.2.2 28) a i → Tm (fun f => x_GP f d 0 13 M υ) (PrO τ p (p + 10 * s - 2)) := by
    intro j
    induction j with
    | zero =>
      intro i q M υ hi q1 q4 hFu u93 h1 h2
      have hi : i = n := by omega
      subst hi
      refine Tm_suc (fun k => by rw [xP_0]) ?_
      show Tm (fun f => if ¬ (M 1 + 1 < 0 ∨ 1740000 ≤ (M 1 + 1).toNatClampNeg) then (if υ.2.2 28 (M 1 + 1).toNatClampNeg ≤ M 4 then x_GP f d 0 15 M υ else (if M 4 ≤ 0 then x_GP f d 0 14 M υ else ob (x_put f 0 (upd (fun _ => 0) 1 44) υ) (fun r4 => ob (x_put f 0 (upd (fun _ => 0) 1 32) r4.2) (fun r5 => x_GP f d 0 14 M r5.2)))) else none) _
      rw [q1, q4, n_add1]
      refine Tm_chk (n_in (by omega) (by omega)) ?_
      rw [n_cl (p := a + 1) (by omega), hFu.2 28 (by decide), t28, g1.2.1]
      exact Tm_ite (fun _ => l15 q M υ hFu u93 h1 (by omega)) (fun w => absurd ((n_le (by omega) (by omega)).mpr (by omega)) w)
    | succ j ih =>
      intro i q M υ hi q1 q4 hFu u93 h1 h2
      obtain ⟨x, x1, x2, x3⟩ := r2 i (by omega)
      have hxb := HS_vb hS x2
      have v1 : smS (σ.2.2 28) a (i + 1) = smS (σ.2.2 28) a i + szN (σ.2.2 28) x := by
        show smS (σ.2.2 28) a i + szN (σ.2.2 28) (σ.2.2 28 (a + 4 + i)).toNatClampNeg = _
        rw [x1, n_cl (by omega)]
      have v2 := smS_mono (H := σ.2.2 28) (v := a) (show i + 1 ≤ n by omega)
      have hsx := (szN_b hS x2).1
      obtain ⟨e, he⟩ : ∃ e, d = e + 1 := ⟨d - 1, by omega⟩
      have l14 : ∀ (q' : Nat) (υ : MS), PrF τ υ → υ.1 93 = nI q' → p ≤ q' → q' ≤ p + 1 + 10 * smS (σ.2.2 28) a i + 2 → Tm (fun f => x_GP f d 0 14 M υ) (PrO τ p (p + 10 * s - 2)) := fun q' υ hFu u93 h1 h2 => by
        refine Tm_suc (fun k => by rw [xP_0]) ?_
        show Tm (fun f => if ¬ (M 1 + 4 + M 4 < 0 ∨ 1740000 ≤ (M 1 + 4 + M 4).toNatClampNeg) then od d (fun e2 => ob (x_GP f e2 0 0 (upd (upd (fun _ => 0) 1 (υ.2.2 28 (M 1 + 4 + M 4).toNatClampNeg)) 2 0) υ) (fun r2 => x_GP f d 0 13 (upd M 4 (M 4 + 1)) r2.2)) else none) _
        rw [q1, q4, show nI a + 4 = nI (a + 4) from n_add (q := 4) (by omega), n_add (by omega)]
        refine Tm_chk (n_in (by omega) (by omega)) ?_
        rw [n_cl (p := a + 4 + i) (by omega), hFu.2 28 (by decide), t28, x1]
        have hc := hrec e he υ x q' (upd (upd (fun _ => 0) 1 (nI x)) 2 0) (PrF_tr hF hFu) x2 (by omega) u93 (by omega) rfl
        rw [he]
        show Tm (fun f => ob (x_GP f e 0 0 (upd (upd (fun _ => 0) 1 (nI x)) 2 0) υ) (fun r2 => x_GP f (e + 1) 0 13 (upd M 4 (nI i + 1)) r2.2)) _
        refine Tm_ob hc (fun r2 hr2 => ?_)
        obtain ⟨hF1, q2, e1, e2, e3⟩ := hr2
        rw [← he]
        exact ih (i + 1) q2 _ r2.2 (by omega) q1 (by show nI i + 1 = _; rw [n_add1]) (PrF_tr hFu hF1) e1 (by omega) (by omega)
      refine Tm_suc (fun k => by rw [xP_0]) ?_
      show Tm (fun f => if ¬ (M 1 + 1 < 0 ∨ 1740000 ≤ (M 1 + 1).toNatClampNeg) then (if υ.2.2 28 (M 1 + 1).toNatClampNeg ≤ M 4 then x_GP f d 0 15 M υ else (if M 4 ≤ 0 then x_GP f d 0 14 M υ else ob (x_put f 0 (upd (fun _ => 0) 1 44) υ) (fun r4 => ob (x_put f 0 (upd (fun _ => 0) 1 32) r4.2) (fun r5 => x_GP f d 0 14 M r5.2)))) else none) _
      rw [q1, q4, n_add1]
      refine Tm_chk (n_in (by omega) (by omega)) ?_
      rw [n_cl (p := a + 1) (by omega), hFu.2 28 (by decide), t28, g1.2.1]
      refine Tm_ite (fun w => absurd ((n_le (by omega) (by omega)).mp w) (by omega)) (fun _ => ?_)
      refine Tm_ite (fun _ => l14 q υ hFu u93 h1 (by omega)) (fun _ => ?_)
      refine Tm_ob (s_put u93 (by omega) _) (fun r4 hr4 => ?_)
      refine Tm_ob (s_put hr4.2.1 (by omega) _) (fun r5 hr5 => ?_)
      exact l14 (q + 1 + 1) r5.2 (PrF_tr hFu (PrF_tr hr4.1 hr5.1)) hr5.2.1 (by omega) (by omega)
  have l12 : ∀ M : Nat → Int32, M 1 = nI a → Tm (fun f => x_GP f d 0 12 M τ) (PrO τ p (p + 10 * s - 2)) := fun M q1 => by
    refine Tm_suc (fun k => by rw [xP_0]) ?_
    refine Tm_ob (s_put h93 (by omega) _) (fun r hr => ?_)
    exact l13 n 0 (p + 1) _ r.2 (by omega) q1 rfl hr.1 hr.2.1 (by omega) (by show p + 1 ≤ p + 1 + 10 * 0; omega)
  refine Tm_suc (fun k => by rw [xP_0]) ?_
  refine Tm_ite (c := N 3 = 6) (fun _ => l12 _ m1) (fun _ => ?_)
  refine Tm_suc (fun k => by rw [xP_0]) ?_
  exact l12 _ m1
theorem s_prtd {σ : MS} (hS : HS g l B h σ) : ∀ (d : Nat) (τ : MS) (a p : Nat) (L : Nat → Int32), PrF σ τ → (a < 3 ∨ g a) → htN (σ.2.2 28) a ≤ d → τ.1 93 = nI p → p + 10 * szN (σ.2.2 28) a ≤ 12000 → L 1 = nI a → Tm (fun k => x_GP k d 0 0 L τ) (PrO τ p (p + 10 * szN (σ.2.2 28) a - 2))
  | 0, τ, a, p, L, hF, ha, hd, h93, hp, h1 => s_prt1 hS (fun e he => by omega) hF ha hd h93 hp h1
  | d + 1, τ, a, p, L, hF, ha, hd, h93, hp, h1 => s_prt1 hS (fun e he => (Nat.succ.inj he) ▸ s_prtd hS d) hF ha hd h93 hp h1
/-- a value is printed -/
theorem s_printV {σ : MS} (hS : HS g l B h σ) {a p : Nat} {L : Nat → Int32} (ha : a < 3 ∨ g a) (h93 : σ.1 93 = nI p) (hp : p + 10 * szN (σ.2.2 28) a ≤ 12000) (h1 : L 1 = nI a) : Tm (fun k => x_print k 0 L σ) (PrO σ p (p + 10 * szN (σ.2.2 28) a - 2)) := s_prtd hS 40 σ a p L PrF_rf ha (by have := (szN_b hS ha).2.2; omega) h93 hp h1
end PRI
