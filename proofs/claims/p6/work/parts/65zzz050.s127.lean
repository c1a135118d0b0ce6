/-! Without; a place is written; other pairs (reference). -/
section PUT
variable {g : Nat → Prop} {l : List Nat} {B h t : Nat} {σ : MS}
theorem s_without (hP : VP g l B h t σ) {v n : Nat} (hv : g v) (hk : 4 ≤ kdN (σ.2.2 28) v) (hn : σ.2.2 28 (v + 1) = nI n) (hn1 : 1 ≤ n) (hn2 : n ≤ 3996) {L : Nat → Int32} (h1 : L 1 = nI v) : Tm (fun k => x_without k 0 L σ) (VO g B h t σ) := by
  have hS := hP.1
  have hb := HS_b hS
  have hB := hS.2.1
  have ht := hP.2.2.1
  obtain ⟨n', v1, v2, v3, v4, v5, v6, v7⟩ := ob_at hS hv
  have e : n' = n := (n_eq (by omega) (by omega)).mp (v1.symm.trans hn)
  subst e
  have b11 : ∀ (N : Nat → Int32) (r : Int32 × MS), N 100 = r.1 → VO g B h t σ r → Tm (fun k => x_without k 11 N r.2) (VO g B h t σ) := fun N r hN hr => by
    refine Tm_suc (fun k => by rw [x_without]) ?_
    rw [hN]; exact Tm_some hr
  refine Tm_suc (fun k => by rw [x_without]) ?_
  rw [h1, show nI v + 1 = nI (v + 1) from n_add1 v]
  refine Tm_chk (n_in (by omega) (by omega)) ?_
  refine Tm_chk (n_in (by omega) (by omega)) ?_
  rw [n_cl (p := v + 1) (by omega), n_cl (p := v) (by omega), v1, v5]
  refine Tm_ite (fun _ => ?_) (fun z => ?_)
  · have l1 : ∀ (q i p : Nat) (N : Nat → Int32) (τ : MS), q + i = n' → p ≤ i → N 1 = nI v → N 3 = nI n' → N 4 = nI p → N 5 = nI i → BF σ τ → Tm (fun k => x_without k 1 N τ) (VO g B h t σ) := by
      intro q
      induction q with
      | zero =>
        intro i p N τ hi hp m1 m3 m4 m5 hF
        refine Tm_suc (fun k => by rw [x_without]) ?_
        rw [m3, m5]
        refine Tm_ite (fun _ => ?_) (fun w => absurd ((n_le (by omega) (by omega)).mpr (by omega)) w)
        refine Tm_suc (fun k => by rw [x_without]) ?_
        rw [m3, show nI n' - 1 = nI (n' - 1) from n_sub (p := n') (q := 1) (by omega) (by omega)]
        exact Tm_ob (s_stringOf51 (BF_VP hF hP) (f := 0) (n := n' - 1) (by omega) (fun _ => by omega) rfl rfl) (fun r hr => Tm_some (BF_VO hF hP hr))
      | succ q ih =>
        intro i p N τ hi hp m1 m3 m4 m5 hF
        have b4 : ∀ (c d : Nat) (M : Nat → Int32) (τ' : MS), c + d ≤ i + 1 → M 1 = nI v → M 3 = nI n' → M 101 = nI c → M 100 = nI d → M 5 = nI i → BF σ τ' → Tm (fun k => x_without k 4 M τ') (VO g B h t σ) := fun c d M τ' hcd q1 q3 q101 q100 q5 hF' => by
          refine Tm_suc (fun k => by rw [x_without]) ?_
          refine ih (i + 1) (c + d) _ _ (by omega) hcd q1 q3 ?_ ?_ hF'
          · show M 101 + M 100 = _
            rw [q101, q100, n_add (by omega)]
          · show M 5 + 1 = _
            rw [q5, n_add1]
        refine Tm_suc (fun k => by rw [x_without]) ?_
        rw [m3, m5, m1, m4, show nI v + 4 = nI (v + 4) from n_add (q := 4) (by omega), n_add (by omega)]
        refine Tm_ite (fun w => absurd ((n_le (by omega) (by omega)).mp w) (by omega)) (fun _ => ?_)
        refine Tm_chk (n_in (by omega) (by omega)) ?_
        refine Tm_chk (n_in (by omega) (by omega)) ?_
        rw [n_cl (p := p) (by omega)]
        show Tm (fun k => x_without k 2 N (mAr τ 51 p (τ.2.2 28 (nI (v + 4 + i)).toNatClampNeg))) _
        refine Tm_suc (fun k => by rw [x_without]) ?_
        refine Tm_ite (fun _ => b4 p 0 _ _ (by omega) m1 m3 m4 rfl m5 (BF_51 hF)) (fun _ => ?_)
        refine Tm_suc (fun k => by rw [x_without]) ?_
        exact b4 p 1 _ _ (by omega) m1 m3 m4 rfl m5 (BF_51 hF)
    exact l1 n' 0 0 _ _ (by omega) (Nat.le_refl _) h1 rfl rfl rfl BF_rf
  have hk5 : 5 ≤ kdN (σ.2.2 28) v := by
    by_cases e : kdN (σ.2.2 28) v = 4
    · exact absurd (by rw [e]; rfl) z
    · omega
  have v7 := v7 hk5
  have l7 : ∀ (q i p : Nat) (N : Nat → Int32) (τ : MS), q + i = n' → p ≤ i → N 1 = nI v → N 3 = nI n' → N 4 = nI t → N 5 = nI i → PuS g t p σ τ → Tm (fun k => x_without k 7 N τ) (VO g B h t σ) := by
    intro q
    induction q with
    | zero =>
      intro i p N τ hi hp m1 m3 m4 m5 hU
      refine Tm_suc (fun k => by rw [x_without]) ?_
      rw [m3, m5]
      refine Tm_ite (fun _ => ?_) (fun w => absurd ((n_le (by omega) (by omega)).mpr (by omega)) w)
      refine Tm_suc (fun k => by rw [x_without]) ?_
      rw [m1]
      refine Tm_chk (n_in (by omega) (by omega)) ?_
      refine Tm_ite (fun _ => ?_) (fun _ => ?_)
      · exact Tm_ob (PuS_set hU hS hP.2.2.2 (by omega) (by omega) (by exact m4)) (fun r hr => b11 _ r rfl hr)
      · refine Tm_suc (fun k => by rw [x_without]) ?_
        exact Tm_ob (PuS_tup hU hS hP.2.2.2 (by omega) (by exact m4)) (fun r hr => b11 _ r rfl hr)
    | succ q ih =>
      intro i p N τ hi hp m1 m3 m4 m5 hU
      have b8 : ∀ (p' : Nat) (τ' : MS), p' ≤ i + 1 → PuS g t p' σ τ' → Tm (fun k => x_without k 8 N τ') (VO g B h t σ) := fun p' τ' hp' hU' => by
        refine Tm_suc (fun k => by rw [x_without]) ?_
        exact ih (i + 1) p' _ _ (by omega) hp' m1 m3 m4 (by show N 5 + 1 = _; rw [m5, n_add1]) hU'
      obtain ⟨y, y1, y2⟩ := v7 i (by omega)
      refine Tm_suc (fun k => by rw [x_without]) ?_
      rw [m3, m5, m1, show nI v + 4 = nI (v + 4) from n_add (q := 4) (by omega), n_add (by omega)]
      refine Tm_ite (fun w => absurd ((n_le (by omega) (by omega)).mp w) (by omega)) (fun _ => ?_)
      refine Tm_ite (fun _ => b8 p τ (by omega) hU) (fun _ => ?_)
      refine Tm_chk (n_in (by omega) (by omega)) ?_
      rw [n_cl (p := v + 4 + i) (by omega), hU.2.1 28 (by decide), y1]
      exact Tm_ob (PuS_push hU (by omega) y2 rfl) (fun r hr => b8 (p + 1) _ (by omega) hr)
  refine Tm_suc (fun k => by rw [x_without]) ?_
  rw [hP.2.1]
  exact l7 n' 0 0 _ _ (by omega) (Nat.le_refl _) h1 rfl rfl rfl (PuS_0 hP.2.1)
theorem s_putPlace (hP : VP g l B h t σ) {v p x : Nat} (hv : g v) (hk : 5 ≤ kdN (σ.2.2 28) v) (hp1 : 1 ≤ p) (hp : p ≤ 100001) (hx : x < 3 ∨ g x) {L : Nat → Int32} (h1 : L 1 = nI v) (h2 : L 2 = nI p) (h3 : L 3 = nI x) : Tm (fun k => x_putPlace k 0 L σ) (VO g B h t σ) := by
  have hS := hP.1
  have hb := HS_b hS
  have hB := hS.2.1
  have ht := hP.2.2.1
  obtain ⟨n, v1, v2, v3, v4, v5, v6, v7⟩ := ob_at hS hv
  have v7 := v7 hk
  have b1 : ∀ N : Nat → Int32, N 1 = nI v → N 2 = nI p → N 3 = nI x → N 4 = nI n → Tm (fun k => x_putPlace k 1 N σ) (VO g B h t σ) := by
    intro N n1 n2 n3 n4
    refine Tm_suc (fun k => by rw [x_putPlace]) ?_
    rw [n2]
    refine Tm_ite (fun w => ?_) (fun _ => ?_)
    case refine_2 =>
      refine Tm_ob (s_fail _ σ) (fun r hr => ?_)
      rw [hr]
      exact Tm_some (VO_er hP (e := 5) (by decide))
    have hp2 := (n_le (q := 2000) (by omega) (by decide)).mp w
    have b3 : ∀ (q j : Nat) (N : Nat → Int32) (τ : MS), 4000 ≤ q + j → n ≤ 3996 → j ≤ 3997 → (j ≤ n + 1 ∨ j ≤ p + 1) → N 1 = nI v → N 2 = nI p → N 3 = nI x → N 4 = nI n → N 5 = nI t → N 6 = nI (j + 1) → PuS g t j σ τ → Tm (fun k => x_putPlace k 3 N τ) (VO g B h t σ) := by
      intro q
      induction q with
      | zero => intro j N τ hq hn hj; omega
      | succ q ih =>
        intro j N τ hq hn hj hjb n1 n2 n3 n4 n5 n6 hU
        have b7 : ∀ (y : Nat) (M : Nat → Int32), (y < 3 ∨ g y) → (j + 1 ≤ n ∨ j + 1 ≤ p) → M 1 = nI v → M 2 = nI p → M 3 = nI x → M 4 = nI n → M 5 = nI t → M 6 = nI (j + 1) → M 100 = nI y → Tm (fun k => x_putPlace k 7 M τ) (VO g B h t σ) := by
          intro y M hy hc m1 m2 m3 m4 m5 m6 m100
          refine Tm_suc (fun k => by rw [x_putPlace]) ?_
          refine Tm_ob (PuS_push hU (by omega) hy (by exact m100)) (fun r hr => ?_)
          exact ih (j + 1) _ _ (by omega) hn (by omega) (by omega) m1 m2 m3 m4 m5 (by show M 6 + 1 = _; rw [m6, n_add1]) hr
        have b4 : (j + 1 ≤ n ∨ j + 1 ≤ p) → Tm (fun k => x_putPlace k 4 N τ) (VO g B h t σ) := by
          intro hc
          refine Tm_suc (fun k => by rw [x_putPlace]) ?_
          rw [n6, n2]
          refine Tm_ite (fun _ => b7 x _ hx hc n1 n2 n3 n4 n5 n6 n3) (fun _ => ?_)
          refine Tm_suc (fun k => by rw [x_putPlace]) ?_
          rw [n4, n6, n1, show nI v + 3 = nI (v + 3) from n_add (q := 3) (by omega), n_add (by omega)]
          refine Tm_ite (fun _ => ?_) (fun w => ?_)
          · refine Tm_suc (fun k => by rw [x_putPlace]) ?_
            exact b7 0 _ (Or.inl (by decide)) hc n1 n2 n3 n4 n5 n6 rfl
          · have hjn : j + 1 ≤ n := by
              by_cases e : n < j + 1
              · exact absurd ((n_lt (by omega) (by omega)).mpr e) w
              · omega
            obtain ⟨y, y1, y2⟩ := v7 j (by omega)
            refine Tm_chk (n_in (by omega) (by omega)) ?_
            rw [n_cl (p := v + 3 + (j + 1)) (by omega), hU.2.1 28 (by decide), show v + 3 + (j + 1) = v + 4 + j by omega, y1]
            exact b7 y _ y2 hc n1 n2 n3 n4 n5 n6 rfl
        refine Tm_suc (fun k => by rw [x_putPlace]) ?_
        rw [n6, n4, n2]
        refine Tm_ite (fun w => b4 (Or.inl ((n_le (by omega) (by omega)).mp w))) (fun _ => ?_)
        refine Tm_ite (fun w => ?_) (fun w => ?_)
        · refine Tm_suc (fun k => by rw [x_putPlace]) ?_
          exact Tm_ob (PuS_tup hU hS hP.2.2.2 (by omega) (by exact n5)) (fun r hr => Tm_some hr)
        · refine b4 (Or.inr ?_)
          by_cases e : p < j + 1
          · exact absurd ((n_lt (by omega) (by omega)).mpr e) w
          · omega
    refine Tm_suc (fun k => by rw [x_putPlace]) ?_
    rw [hP.2.1]
    exact b3 4000 0 _ _ (by omega) v2 (by omega) (by omega) n1 n2 n3 n4 rfl rfl (PuS_0 hP.2.1)
  refine Tm_suc (fun k => by rw [x_putPlace]) ?_
  rw [h1, show nI v + 1 = nI (v + 1) from n_add1 v]
  refine Tm_chk (n_in (by omega) (by omega)) ?_
  rw [n_cl (p := v + 1) (by omega), v1]
  refine Tm_ite (fun _ => b1 _ h1 h2 h3 rfl) (fun _ => ?_)
  exact Tm_ite (fun _ => Tm_some (VO_id hP ⟨v, rfl, Or.inr hv⟩)) (fun _ => b1 _ h1 h2 h3 rfl)
theorem s_pushOthers (hP : VP g l B h t σ) {v x n : Nat} (gv : g v) (hn : n ≤ 3996) (v1 : σ.2.2 28 (v + 1) = nI n) (hM : MpO g (σ.2.2 28) v n) (hx : x < 3 ∨ g x) {L : Nat → Int32} (h1 : L 1 = nI v) (h2 : L 2 = nI x) : Tm (fun k => x_pushOthers k 0 L σ) (fun r => ∃ p, p ≤ n ∧ PuS g t p σ r.2) := by
  have hS := hP.1
  have hb := HS_b hS
  have hB := hS.2.1
  have ht := hP.2.2.1
  obtain ⟨n', w1, w2, w3, w4, -, -, -⟩ := ob_at hS gv
  have e : n' = n := (n_eq (by omega) (by omega)).mp (w1.symm.trans v1)
  subst e
  have b1 : ∀ (q i p : Nat) (N : Nat → Int32) (τ : MS), q + i = n' → p ≤ i → N 1 = nI v → N 2 = nI x → N 3 = nI i → PuS g t p σ τ → Tm (fun k => x_pushOthers k 1 N τ) (fun r => ∃ p, p ≤ n' ∧ PuS g t p σ r.2) := by
    intro q
    induction q with
    | zero =>
      intro i p N τ hi hp n1 n2 n3 hU
      refine Tm_suc (fun k => by rw [x_pushOthers]) ?_
      rw [n1, n3, show nI v + 1 = nI (v + 1) from n_add1 v]
      refine Tm_chk (n_in (by omega) (by omega)) ?_
      rw [n_cl (p := v + 1) (by omega), hU.2.1 28 (by decide), v1]
      refine Tm_ite (fun _ => ?_) (fun w => absurd ((n_le (by omega) (by omega)).mpr (by omega)) w)
      refine Tm_suc (fun k => by rw [x_pushOthers]) ?_
      exact Tm_some ⟨p, by omega, hU⟩
    | succ q ih =>
      intro i p N τ hi hp n1 n2 n3 hU
      have b2 : ∀ (p' : Nat) (M : Nat → Int32) (τ' : MS), p' ≤ i + 1 → M 1 = nI v → M 2 = nI x → M 3 = nI i → PuS g t p' σ τ' → Tm (fun k => x_pushOthers k 2 M τ') (fun r => ∃ p, p ≤ n' ∧ PuS g t p σ r.2) := fun p' M τ' hp' m1 m2 m3 hU' => by
        refine Tm_suc (fun k => by rw [x_pushOthers]) ?_
        exact ih (i + 1) p' _ _ (by omega) hp' m1 m2 (by show M 3 + 1 = _; rw [m3, n_add1]) hU'
      obtain ⟨c, c1, c2, c3, c4⟩ := hM i (by omega)
      obtain ⟨d1, d2, ⟨a, a1, a2⟩, b, bb1, bb2⟩ := pr_at hS c2 c3 c4
      refine Tm_suc (fun k => by rw [x_pushOthers]) ?_
      rw [n1, n3, show nI v + 1 = nI (v + 1) from n_add1 v, show nI v + 4 = nI (v + 4) from n_add (q := 4) (by omega), n_add (by omega)]
      refine Tm_chk (n_in (by omega) (by omega)) ?_
      rw [n_cl (p := v + 1) (by omega), hU.2.1 28 (by decide), v1]
      refine Tm_ite (fun w => absurd ((n_le (by omega) (by omega)).mp w) (by omega)) (fun _ => ?_)
      refine Tm_chk (n_in (by omega) (by omega)) ?_
      rw [n_cl (p := v + 4 + i) (by omega), c1, show nI c + 4 = nI (c + 4) from n_add (q := 4) (by omega)]
      refine Tm_chk (n_in (by omega) (by omega)) ?_
      rw [n_cl (p := c + 4) (by omega), a1]
      refine Tm_ob (s_compareV (PuS_HS hU hS) a2 hx rfl (by exact n2)) (fun r hr => ?_)
      rw [hr]
      refine Tm_ite (fun _ => b2 p _ τ (by omega) n1 n2 n3 hU) (fun _ => ?_)
      exact Tm_ob (PuS_push hU (by omega) (Or.inr c2) rfl) (fun r hr => b2 (p + 1) _ _ (by omega) n1 n2 n3 hr)
  refine Tm_suc (fun k => by rw [x_pushOthers]) ?_
  exact b1 n' 0 0 _ _ (by omega) (Nat.le_refl _) h1 h2 rfl (PuS_0 hP.2.1)
end PUT
