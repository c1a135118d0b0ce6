/-! Words of kinds; characters; parts (reference). -/
section TYP
variable {g : Nat → Prop} {l : List Nat} {B h t : Nat} {σ : MS}
theorem PrF_VP {τ : MS} (hN : PrF σ τ) (hP : VP g l B h t σ) : VP g l B h t τ := ⟨PrF_HS hN hP.1, (hN.1 59 (by decide)).trans hP.2.1, hP.2.2.1, ErB_c (hN.1 56 (by decide)) hP.2.2.2⟩
theorem PrF_VO {τ : MS} {r : Int32 × MS} (hN : PrF σ τ) (hP : VP g l B h t σ) (b : VO g B h t τ r) : VO g B h t σ r :=
  VO_tr (τ := τ) (g1 := g) (l1 := l) (h1 := h) ⟨PrF_HS hN hP.1, fun _ z => z, Nat.le_refl _, fun i _ _ => by rw [hN.2 28 (by decide)]⟩ ⟨fun j hj => hN.1 j (by omega), fun j hj => hN.2 j (by omega), fun i _ => by rw [hN.2 29 (by decide)]⟩ (fun z => by rw [hN.1 56 (by decide)]; exact z) b
/-- the table of the kinds' words: where its spaces are -/
def TyT (H : Nat → Int32) : Prop := H 2 = 32 ∧ H 8 = 32 ∧ H 14 = 32 ∧ H 19 = 32 ∧ H 26 = 32 ∧ H 32 = 32 ∧ H 36 = 32
theorem s_putWord (hT : TyT (σ.2.2 2)) {k : Nat} (hk : k ≤ 6) (h93 : σ.1 93 = nI 0) {L : Nat → Int32} (h1 : L 1 = nI k) : Tm (fun f => x_putWord f 0 L σ) (fun r => PrF σ r.2 ∧ ∃ p, r.2.1 93 = nI p ∧ p ≤ 40) := by
  obtain ⟨t1, t2, t3, t4, t5, t6, t7⟩ := hT
  have b4 : ∀ (q j : Nat) (p : Nat) (N : Nat → Int32) (τ : MS), 36 ≤ q + j → j ≤ 36 → p ≤ j → N 2 = nI j → τ.1 93 = nI p → PrF σ τ → Tm (fun f => x_putWord f 4 N τ) (fun r => PrF σ r.2 ∧ ∃ p, r.2.1 93 = nI p ∧ p ≤ 40) := by
    have b5 : ∀ (p : Nat) (N : Nat → Int32) (τ : MS), p ≤ 36 → τ.1 93 = nI p → PrF σ τ → Tm (fun f => x_putWord f 5 N τ) (fun r => PrF σ r.2 ∧ ∃ p, r.2.1 93 = nI p ∧ p ≤ 40) := fun p N τ hp t93 hF => by
      refine Tm_suc (fun k => by rw [x_putWord]) ?_
      exact Tm_some ⟨hF, p, t93, by omega⟩
    intro q
    induction q with
    | zero =>
      intro j p N τ hj hj2 hp n2 t93 hF
      have : j = 36 := by omega
      subst this
      refine Tm_suc (fun k => by rw [x_putWord]) ?_
      rw [n2]
      refine Tm_chk (n_in (by omega) (by omega)) ?_
      rw [n_cl (p := 36) (by omega), hF.2 2 (by decide)]
      exact Tm_ite (fun _ => b5 p N τ (by omega) t93 hF) (fun w => absurd t7 w)
    | succ q ih =>
      intro j p N τ hj hj2 hp n2 t93 hF
      refine Tm_suc (fun k => by rw [x_putWord]) ?_
      rw [n2]
      refine Tm_chk (n_in (by omega) (by omega)) ?_
      rw [n_cl (p := j) (by omega), hF.2 2 (by decide)]
      refine Tm_ite (fun _ => b5 p N τ (by omega) t93 hF) (fun w => ?_)
      have hj3 : j < 36 := by
        by_cases e : j = 36
        · rw [e] at w; exact absurd t7 w
        · omega
      refine Tm_chk (n_in2 (by omega) (by omega)) ?_
      refine Tm_ob (s_put t93 (by omega) _) (fun r hr => ?_)
      exact ih (j + 1) (p + 1) _ _ (by omega) (by omega) (by omega) (n_add1 j) hr.2.1 (PrF_tr hF hr.1)
  have b1 : ∀ (q j i : Nat) (N : Nat → Int32), 34 ≤ q + j → j ≤ 33 → (2 < j → 1 ≤ i) → (8 < j → 2 ≤ i) → (14 < j → 3 ≤ i) → (19 < j → 4 ≤ i) → (26 < j → 5 ≤ i) → (32 < j → 6 ≤ i) → i ≤ j → N 1 = nI k → N 2 = nI j → N 3 = nI i → Tm (fun f => x_putWord f 1 N σ) (fun r => PrF σ r.2 ∧ ∃ p, r.2.1 93 = nI p ∧ p ≤ 40) := by
    intro q
    induction q with
    | zero => intro j i N hj hj2; omega
    | succ q ih =>
      intro j i N hj hj2 c1 c2 c3 c4 c5 c6 hij n1 n2 n3
      refine Tm_suc (fun k => by rw [x_putWord]) ?_
      rw [n1, n3, n2]
      refine Tm_ite (fun _ => b4 36 j 0 N σ (by omega) (by omega) (by omega) n2 h93 PrF_rf) (fun w => ?_)
      have hik : i < k := by
        by_cases e : k ≤ i
        · exact absurd ((n_le (by omega) (by omega)).mpr e) w
        · omega
      have hj3 : j ≤ 32 := by
        by_cases e : 32 < j
        · have := c6 e; omega
        · omega
      refine Tm_chk (n_in (by omega) (by omega)) ?_
      rw [n_cl (p := j) (by omega)]
      refine Tm_ite (fun z => ?_) (fun z => ?_)
      · refine Tm_suc (fun k => by rw [x_putWord]) ?_
        refine ih (j + 1) (i + 1) _ (by omega) (by omega) (by omega) (by omega) (by omega) (by omega) (by omega) (by omega) (by omega) n1 ?_ ?_
        · show N 2 + 1 = _
          rw [n2, n_add1]
        · exact n_add1 i
      · have d1 : j ≠ 2 := fun e => z (by rw [e]; exact t1)
        have d2 : j ≠ 8 := fun e => z (by rw [e]; exact t2)
        have d3 : j ≠ 14 := fun e => z (by rw [e]; exact t3)
        have d4 : j ≠ 19 := fun e => z (by rw [e]; exact t4)
        have d5 : j ≠ 26 := fun e => z (by rw [e]; exact t5)
        have d6 : j ≠ 32 := fun e => z (by rw [e]; exact t6)
        refine Tm_suc (fun k => by rw [x_putWord]) ?_
        refine Tm_suc (fun k => by rw [x_putWord]) ?_
        refine ih (j + 1) i _ (by omega) (by omega) (by omega) (by omega) (by omega) (by omega) (by omega) (by omega) (by omega) n1 ?_ ?_
        · show N 2 + 1 = _
          rw [n2, n_add1]
        · exact n_add (q := 0) (by omega)
  refine Tm_suc (fun k => by rw [x_putWord]) ?_
  exact b1 34 0 0 _ (by omega) (by omega) (by omega) (by omega) (by omega) (by omega) (by omega) (by omega) (by omega) h1 rfl rfl
theorem s_typeOf (hP : VP g l B h t σ) (hT : TyT (σ.2.2 2)) {v : Nat} (hv : v < 3 ∨ g v) {L : Nat → Int32} (h1 : L 1 = nI v) : Tm (fun k => x_typeOf k 0 L σ) (VO g B h t σ) := by
  refine Tm_suc (fun k => by rw [x_typeOf]) ?_
  show Tm (fun k => x_typeOf k 1 L (mSc σ 93 0)) _
  have hF : PrF σ (mSc σ 93 0) := PrF_sc (Or.inr rfl)
  have hP1 := PrF_VP hF hP
  have hT1 : TyT ((mSc σ 93 0).2.2 2) := hT
  have h93 : (mSc σ 93 0).1 93 = nI 0 := rfl
  refine Tm_mono (Q := VO g B h t (mSc σ 93 0)) ?_ (fun r hr => PrF_VO hF hP hr)
  generalize mSc σ 93 0 = ρ at hP1 hT1 h93
  refine Tm_suc (fun k => by rw [x_typeOf]) ?_
  refine Tm_ob (s_kind hP1.1 hv (by exact h1)) (fun r hr => ?_)
  rw [hr]
  refine Tm_ob (s_putWord hT1 (kdN_6 hP1.1 hv) h93 rfl) (fun r hr => ?_)
  obtain ⟨hF2, p, p1, p2⟩ := hr
  rw [p1]
  exact Tm_ob (s_stringOf48 (PrF_VP hF2 hP1) (f := 0) (n := p) (by omega) (fun _ => by omega) rfl rfl) (fun s hs => Tm_some (PrF_VO hF2 hP1 hs))
theorem s_character (hP : VP g l B h t σ) {v : Nat} (hv : v < 3 ∨ g v) {L : Nat → Int32} (h1 : L 1 = nI v) : Tm (fun k => x_character k 0 L σ) (VO g B h t σ) := by
  have hS := hP.1
  have kv := kdN_6 hS hv
  refine Tm_suc (fun k => by rw [x_character]) ?_
  refine Tm_ob (s_kind hS hv (by exact h1)) (fun r hr => ?_)
  rw [hr]
  refine Tm_ite (fun w => ?_) (fun _ => Tm_ob (s_wrongKind _) (fun r hr => Tm_some (VO_wk hP hr)))
  have w := (n_eq (q := 2) (by omega) (by decide)).mp w
  obtain ⟨n, hn⟩ := Wh_of hS hv w
  have b2 : ∀ N : Nat → Int32, Tm (fun k => x_character k 2 N σ) (VO g B h t σ) := fun N => by
    refine Tm_suc (fun k => by rw [x_character]) ?_
    refine Tm_ob (s_fail _ σ) (fun r hr => ?_)
    rw [hr]
    exact Tm_some (VO_er hP (e := 4) (by decide))
  refine Tm_suc (fun k => by rw [x_character]) ?_
  refine Tm_ob (s_intOf hS hn (b := 255) (by decide) (by exact h1) rfl) (fun r hr => ?_)
  rw [hr.1]
  refine Tm_ite (fun _ => b2 _) (fun _ => ?_)
  refine Tm_ite (fun _ => ?_) (fun _ => b2 _)
  refine Tm_suc (fun k => by rw [x_character]) ?_
  exact Tm_ob (s_byteString hP _) (fun s hs => Tm_some hs)
theorem s_codeOf (hP : VP g l B h t σ) {v : Nat} (hv : v < 3 ∨ g v) {L : Nat → Int32} (h1 : L 1 = nI v) : Tm (fun k => x_codeOf k 0 L σ) (VO g B h t σ) := by
  have hS := hP.1
  have hb := HS_b hS
  have kv := kdN_6 hS hv
  refine Tm_suc (fun k => by rw [x_codeOf]) ?_
  refine Tm_ob (s_kind hS hv (by exact h1)) (fun r hr => ?_)
  rw [hr]
  refine Tm_ite (fun w => ?_) (fun _ => Tm_ob (s_wrongKind _) (fun r hr => Tm_some (VO_wk hP hr)))
  have w := (n_eq (q := 4) (by omega) (by decide)).mp w
  obtain ⟨n, v1, v2, v3, v4, v5, v6, v7⟩ := ob_at hS (kdN_ge hS hv (by omega))
  refine Tm_suc (fun k => by rw [x_codeOf]) ?_
  rw [h1, show nI v + 1 = nI (v + 1) from n_add1 v]
  refine Tm_chk (n_in (by omega) (by omega)) ?_
  rw [n_cl (p := v + 1) (by omega), v1]
  refine Tm_ite (fun z => ?_) (fun _ => ?_)
  · have z := (n_eq (q := 1) (by omega) (by decide)).mp z
    refine Tm_suc (fun k => by rw [x_codeOf]) ?_
    rw [h1, show nI v + 4 = nI (v + 4) from n_add (q := 4) (by omega)]
    refine Tm_chk (n_in (by omega) (by omega)) ?_
    exact Tm_ob (s_small hP _) (fun s hs => Tm_some hs)
  · refine Tm_ob (s_fail _ σ) (fun r hr => ?_)
    rw [hr]
    exact Tm_some (VO_er hP (e := 4) (by decide))
theorem s_many (hP : VP g l B h t σ) {v : Nat} (hv : v < 3 ∨ g v) {L : Nat → Int32} (h1 : L 1 = nI v) : Tm (fun k => x_many k 0 L σ) (VO g B h t σ) := by
  have hS := hP.1
  have hb := HS_b hS
  have kv := kdN_6 hS hv
  refine Tm_suc (fun k => by rw [x_many]) ?_
  refine Tm_ob (s_kind hS hv (by exact h1)) (fun r hr => ?_)
  rw [hr]
  refine Tm_ite (fun w => ?_) (fun _ => ?_)
  · have w := (n_le (p := 4) (by decide) (by omega)).mp w
    obtain ⟨n, v1, v2, v3, v4, v5, v6, v7⟩ := ob_at hS (kdN_ge hS hv (by omega))
    refine Tm_suc (fun k => by rw [x_many]) ?_
    rw [h1, show nI v + 1 = nI (v + 1) from n_add1 v]
    refine Tm_chk (n_in (by omega) (by omega)) ?_
    exact Tm_ob (s_small hP _) (fun s hs => Tm_some hs)
  · refine Tm_ob (s_fail _ σ) (fun r hr => ?_)
    rw [hr]
    exact Tm_some (VO_er hP (e := 1) (by decide))
theorem s_negative (hP : VP g l B h t σ) {v : Nat} (hv : v < 3 ∨ g v) {L : Nat → Int32} (h1 : L 1 = nI v) : Tm (fun k => x_negative k 0 L σ) (VO g B h t σ) := by
  have hS := hP.1
  have kv := kdN_6 hS hv
  have b2 : ∀ (N : Nat → Int32) (r : Int32 × MS), N 100 = r.1 → VO g B h t σ r → Tm (fun k => x_negative k 2 N r.2) (VO g B h t σ) := fun N r hN hr => by
    refine Tm_suc (fun k => by rw [x_negative]) ?_
    rw [hN]; exact Tm_some hr
  refine Tm_suc (fun k => by rw [x_negative]) ?_
  refine Tm_ob (s_kind hS hv (by exact h1)) (fun r hr => ?_)
  rw [hr]
  refine Tm_ite (fun w => ?_) (fun _ => Tm_ob (s_wrongKind _) (fun r hr => b2 _ r rfl (VO_wk hP hr)))
  have w := (n_eq (q := 2) (by omega) (by decide)).mp w
  obtain ⟨n, hn⟩ := Wh_of hS hv w
  refine Tm_suc (fun k => by rw [x_negative]) ?_
  exact Tm_ob (s_other hP hn (by exact h1)) (fun s hs => b2 _ s rfl hs)
theorem s_turned (hP : VP g l B h t σ) (L : Nat → Int32) : Tm (fun k => x_turned k 0 L σ) (VO g B h t σ) := by
  have b1 : ∀ (N : Nat → Int32) (e : Int32) (τ : MS), VO g B h t σ (e, τ) → Tm (fun k => x_turned k 1 N τ) (VO g B h t σ) := fun N e τ hr => by
    have b3 : ∀ N : Nat → Int32, Tm (fun k => x_turned k 3 N τ) (VO g B h t σ) := fun N => by
      refine Tm_suc (fun k => by rw [x_turned]) ?_
      exact Tm_ob (s_truth _) (fun s hs => Tm_some (VO_tru2 hr hs))
    refine Tm_suc (fun k => by rw [x_turned]) ?_
    refine Tm_ite (fun _ => b3 _) (fun _ => ?_)
    refine Tm_suc (fun k => by rw [x_turned]) ?_
    exact b3 _
  refine Tm_suc (fun k => by rw [x_turned]) ?_
  refine Tm_ite (fun _ => b1 _ 0 σ (VO_id hP Vd_0)) (fun _ => ?_)
  refine Tm_ite (fun _ => b1 _ 0 σ (VO_id hP Vd_0)) (fun _ => ?_)
  refine Tm_ob (s_fail _ σ) (fun r hr => ?_)
  rw [hr]
  exact b1 _ 0 _ (VO_er hP (e := 9) (by decide))
end TYP
