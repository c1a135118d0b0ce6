/-! Two runs side by side (reference): a place is written; other pairs. -/
section KPL
variable {g1 g2 : Nat → Prop} {l1 l2 : List Nat} {B1 h1 B2 h2 n : Nat} {σ1 σ2 : MS}
theorem VC_ev (hS1 : HS g1 l1 B1 h1 σ1) (hS2 : HS g2 l2 B2 h2 σ2) {a b : Nat} (ha : a < 3 ∨ g1 a) (hb : b < 3 ∨ g2 b) (hv : EVb (σ1.2.2 28) (σ2.2.2 28) a b) : VC g1 g2 (σ1.2.2 28) (σ2.2.2 28) (nI a) (nI b) := ⟨a, b, rfl, ha, rfl, hb, hv, HS_vb hS1 ha, HS_vb hS2 hb⟩
theorem VC_00 {H1 H2 : Nat → Int32} : VC g1 g2 H1 H2 0 0 := ⟨0, 0, rfl, Or.inl (by decide), rfl, Or.inl (by decide), EVb_0 (by decide), by decide, by decide⟩
def PPl (v p q f j : Nat) (x : Int32) (N : Nat → Int32) : Prop := N 1 = nI v ∧ N 2 = nI p ∧ N 3 = x ∧ N 4 = nI q ∧ N 5 = nI f ∧ N 6 = nI (j + 1)
theorem k_putPlace {f v1 v2 q p : Nat} {x y : Int32} (hS1 : HS g1 l1 B1 h1 σ1) (hS2 : HS g2 l2 B2 h2 σ2) (e1 : σ1.1 56 = 0) (e2 : σ2.1 56 = 0) (t1 : σ1.1 59 = nI f) (t2 : σ2.1 59 = nI f) (hf : f ≤ 177000) (hr1 : h1 + 4004 ≤ B1 + 870000) (hr2 : h2 + 4004 ≤ B2 + 870000) (hO : OE g1 g2 (σ1.2.2 28) (σ2.2.2 28) v1 v2 5 q) (hp : p ≤ 100001) (hx : VC g1 g2 (σ1.2.2 28) (σ2.2.2 28) x y) {L1 L2 : Nat → Int32} (d1 : L1 1 = nI v1) (f1 : L2 1 = nI v2) (d2 : L1 2 = nI p) (f2 : L2 2 = nI p) (d3 : L1 3 = x) (f3 : L2 3 = y) : Pm n (fun k => x_putPlace k 0 L1 σ1) (fun k => x_putPlace k 0 L2 σ2) (KQ h1 h2 4004) := by
  obtain ⟨gv1, gv2, _, _, k6, o6, o7, _, o9, o10, o11, o12, o13, o14, ov, o16, o17⟩ := hO
  have ca := o16 (by omega)
  have b3 : p ≤ 2000 → ∀ (m j : Nat) (N1 N2 : Nat → Int32) (τ1 τ2 : MS), j ≤ 3996 → PPl v1 p q f j x N1 → PPl v2 p q f j y N2 → KPu g1 g2 f j σ1 σ2 τ1 τ2 → Pm m (fun k => x_putPlace k 3 N1 τ1) (fun k => x_putPlace k 3 N2 τ2) (KQ h1 h2 4004) := by
    intro hp2 m
    induction m using Nat.strongRecOn with
    | ind m ih =>
    intro j N1 N2 τ1 τ2 hj hN1 hN2 hK
    have a28 : τ1.2.2 28 = σ1.2.2 28 := hK.1.2.1 28 (by decide)
    have b28 : τ2.2.2 28 = σ2.2.2 28 := hK.2.1.2.1 28 (by decide)
    have c7 : ∀ (m' : Nat) (M1 M2 : Nat → Int32), m' < m → j < 3996 → PPl v1 p q f j x M1 → PPl v2 p q f j y M2 → VC g1 g2 (σ1.2.2 28) (σ2.2.2 28) (M1 100) (M2 100) → Pm m' (fun k => x_putPlace k 7 M1 τ1) (fun k => x_putPlace k 7 M2 τ2) (KQ h1 h2 4004) := fun m' M1 M2 hm' hj' hM1 hM2 hv => by
      refine Pm_suc rfl (fun k => by rw [x_putPlace]) (fun k => by rw [x_putPlace]) (fun k2 hk2 => ?_)
      refine Pm_ob (k_push hK (by omega) hv rfl rfl) (fun r1 r2 hr => ?_)
      rw [hM1.2.2.2.2.2, hM2.2.2.2.2.2, n_add1]
      exact ih k2 (by omega) (j + 1) _ _ _ _ (by omega) ⟨hM1.1, hM1.2.1, hM1.2.2.1, hM1.2.2.2.1, hM1.2.2.2.2.1, rfl⟩ ⟨hM2.1, hM2.2.1, hM2.2.2.1, hM2.2.2.2.1, hM2.2.2.2.2.1, rfl⟩ hr
    have c4 : ∀ m', m' < m → j < 3996 → Pm m' (fun k => x_putPlace k 4 N1 τ1) (fun k => x_putPlace k 4 N2 τ2) (KQ h1 h2 4004) := fun m' hm' hj' => by
      refine Pm_suc rfl (fun k => by rw [x_putPlace]) (fun k => by rw [x_putPlace]) (fun k2 hk2 => ?_)
      rw [hN1.2.1, hN2.2.1, hN1.2.2.2.2.2, hN2.2.2.2.2.2]
      refine Pm_ite Iff.rfl (fun _ _ => ?_) (fun _ _ => ?_)
      · refine c7 k2 _ _ (by omega) hj' ⟨hN1.1, hN1.2.1, hN1.2.2.1, hN1.2.2.2.1, hN1.2.2.2.2.1, hN1.2.2.2.2.2⟩ ⟨hN2.1, hN2.2.1, hN2.2.2.1, hN2.2.2.2.1, hN2.2.2.2.2.1, hN2.2.2.2.2.2⟩ ?_
        show VC g1 g2 (σ1.2.2 28) (σ2.2.2 28) (N1 3) (N2 3)
        rw [hN1.2.2.1, hN2.2.2.1]; exact hx
      · refine Pm_suc rfl (fun k => by rw [x_putPlace]) (fun k => by rw [x_putPlace]) (fun k3 hk3 => ?_)
        rw [hN1.1, hN2.1, hN1.2.2.2.1, hN2.2.2.2.1, hN1.2.2.2.2.2, hN2.2.2.2.2.2, show nI v1 + 3 = nI (v1 + 3) from n_add (q := 3) (by omega), show nI v2 + 3 = nI (v2 + 3) from n_add (q := 3) (by omega), n_add (p := v1 + 3) (by omega), n_add (p := v2 + 3) (by omega), n_cl (p := v1 + 3 + (j + 1)) (by omega), n_cl (p := v2 + 3 + (j + 1)) (by omega), a28, b28]
        refine Pm_ite Iff.rfl (fun _ _ => ?_) (fun z _ => ?_)
        · refine Pm_suc rfl (fun k => by rw [x_putPlace]) (fun k => by rw [x_putPlace]) (fun k4 hk4 => ?_)
          exact c7 k4 _ _ (by omega) hj' ⟨hN1.1, hN1.2.1, hN1.2.2.1, hN1.2.2.2.1, hN1.2.2.2.2.1, hN1.2.2.2.2.2⟩ ⟨hN2.1, hN2.2.1, hN2.2.2.1, hN2.2.2.2.1, hN2.2.2.2.2.1, hN2.2.2.2.2.2⟩ VC_00
        · have hjq : j < q := by
            by_cases c : j < q
            · exact c
            · exact absurd ((n_lt (by omega) (by omega)).mpr (by omega)) z
          refine Pm_chk (fun _ _ => ?_)
          refine c7 k3 _ _ (by omega) hj' ⟨hN1.1, hN1.2.1, hN1.2.2.1, hN1.2.2.2.1, hN1.2.2.2.2.1, hN1.2.2.2.2.2⟩ ⟨hN2.1, hN2.2.1, hN2.2.2.1, hN2.2.2.2.1, hN2.2.2.2.2.1, hN2.2.2.2.2.2⟩ ?_
          show VC g1 g2 (σ1.2.2 28) (σ2.2.2 28) (σ1.2.2 28 (v1 + 3 + (j + 1))) (σ2.2.2 28 (v2 + 3 + (j + 1)))
          rw [show v1 + 3 + (j + 1) = v1 + 4 + j by omega, show v2 + 3 + (j + 1) = v2 + 4 + j by omega]
          exact ca j hjq
    refine Pm_suc rfl (fun k => by rw [x_putPlace]) (fun k => by rw [x_putPlace]) (fun k1 hk1 => ?_)
    rw [hN1.2.1, hN2.2.1, hN1.2.2.2.1, hN2.2.2.2.1, hN1.2.2.2.2.2, hN2.2.2.2.2.2]
    refine Pm_ite Iff.rfl (fun z _ => ?_) (fun _ _ => ?_)
    · have z := (n_le (by omega) (by omega)).mp z
      exact c4 k1 (by omega) (by omega)
    refine Pm_ite Iff.rfl (fun _ _ => ?_) (fun z _ => ?_)
    · refine Pm_suc rfl (fun k => by rw [x_putPlace]) (fun k => by rw [x_putPlace]) (fun k2 hk2 => ?_)
      exact Pm_ob (k_tupP hK hS1 hS2 e1 e2 (by omega) (by omega) (by omega) (by exact hN1.2.2.2.2.1) (by exact hN2.2.2.2.2.1)) (fun r1 r2 hr => Pm_some (KQ_mo hr (by omega)))
    · have hjp : j + 1 ≤ p := by
        by_cases c : p < j + 1
        · exact absurd ((n_lt (by omega) (by omega)).mpr c) z
        · omega
      exact c4 k1 (by omega) (by omega)
  have c1 : ∀ (m : Nat) (N1 N2 : Nat → Int32), N1 1 = nI v1 → N2 1 = nI v2 → N1 2 = nI p → N2 2 = nI p → N1 3 = x → N2 3 = y → N1 4 = nI q → N2 4 = nI q → Pm m (fun k => x_putPlace k 1 N1 σ1) (fun k => x_putPlace k 1 N2 σ2) (KQ h1 h2 4004) := fun m N1 N2 a1 b1 a2 b2 a3 b3' a4 b4 => by
    refine Pm_suc rfl (fun k => by rw [x_putPlace]) (fun k => by rw [x_putPlace]) (fun k1 hk1 => ?_)
    rw [a2, b2]
    refine Pm_ite Iff.rfl (fun z _ => ?_) (fun _ _ => ?_)
    · have z := (n_le (q := 2000) (by omega) (by decide)).mp z
      refine Pm_suc rfl (fun k => by rw [x_putPlace]) (fun k => by rw [x_putPlace]) (fun k2 hk2 => ?_)
      rw [t1, t2]
      exact b3 z k2 0 _ _ _ _ (by omega) ⟨a1, a2, a3, a4, rfl, rfl⟩ ⟨b1, b2, b3', b4, rfl, rfl⟩ (KPu_0 t1 t2)
    · refine Pm_ob (k_fail (K := 4004) (e := 5) (by decide) hS1 hS2 rfl rfl) (fun r1 r2 hr => ?_)
      rw [hr.1, hr.2.1]
      exact Pm_some hr.2.2
  refine Pm_suc rfl (fun k => by rw [x_putPlace]) (fun k => by rw [x_putPlace]) (fun m1 _ => ?_)
  rw [d1, f1, d2, f2, d3, f3, n_add1, n_add1, n_cl (p := v1 + 1) (by omega), n_cl (p := v2 + 1) (by omega), o11, o12]
  refine Pm_chk (fun _ _ => ?_)
  refine Pm_ite Iff.rfl (fun _ _ => c1 m1 _ _ d1 f1 d2 f2 d3 f3 rfl rfl) (fun _ _ => ?_)
  refine Pm_ite (VC_0 hx) (fun _ _ => ?_) (fun _ _ => c1 m1 _ _ d1 f1 d2 f2 d3 f3 rfl rfl)
  exact Pm_some (KQ_VC hS1 hS2 ⟨fun _ => e2, fun _ => e1⟩ (VC_ev hS1 hS2 (Or.inr gv1) (Or.inr gv2) ov))
theorem k_pushOthers {f v1 v2 q a1 a2 : Nat} (hS1 : HS g1 l1 B1 h1 σ1) (hS2 : HS g2 l2 B2 h2 σ2) (t1 : σ1.1 59 = nI f) (t2 : σ2.1 59 = nI f) (hf : f ≤ 177000) (hO : OE g1 g2 (σ1.2.2 28) (σ2.2.2 28) v1 v2 6 q) (hM : MpE g1 g2 (σ1.2.2 28) (σ2.2.2 28) v1 v2 q) (ha1 : a1 < 3 ∨ g1 a1) (ha2 : a2 < 3 ∨ g2 a2) (va : EVb (σ1.2.2 28) (σ2.2.2 28) a1 a2) {L1 L2 : Nat → Int32} (d1 : L1 1 = nI v1) (f1 : L2 1 = nI v2) (d2 : L1 2 = nI a1) (f2 : L2 2 = nI a2) : Pm n (fun k => x_pushOthers k 0 L1 σ1) (fun k => x_pushOthers k 0 L2 σ2) (fun r1 r2 => ∃ w, w ≤ q ∧ KPu g1 g2 f w σ1 σ2 r1.2 r2.2) := by
  obtain ⟨gv1, gv2, _, _, k6, o6, o7, _, o9, o10, o11, o12, o13, o14, ov, o16, o17⟩ := hO
  have b1 : ∀ (m i w : Nat) (N1 N2 : Nat → Int32) (τ1 τ2 : MS), i ≤ q → w ≤ i → N1 1 = nI v1 → N2 1 = nI v2 → N1 2 = nI a1 → N2 2 = nI a2 → N1 3 = nI i → N2 3 = nI i → KPu g1 g2 f w σ1 σ2 τ1 τ2 → Pm m (fun k => x_pushOthers k 1 N1 τ1) (fun k => x_pushOthers k 1 N2 τ2) (fun r1 r2 => ∃ w, w ≤ q ∧ KPu g1 g2 f w σ1 σ2 r1.2 r2.2) := by
    intro m
    induction m using Nat.strongRecOn with
    | ind m ih =>
    intro i w N1 N2 τ1 τ2 hi hw x1 y1 x2 y2 x3 y3 hK
    have a28 : τ1.2.2 28 = σ1.2.2 28 := hK.1.2.1 28 (by decide)
    have b28 : τ2.2.2 28 = σ2.2.2 28 := hK.2.1.2.1 28 (by decide)
    refine Pm_suc rfl (fun k => by rw [x_pushOthers]) (fun k => by rw [x_pushOthers]) (fun k1 hk1 => ?_)
    rw [x1, y1, x2, y2, x3, y3, n_add1 v1, n_add1 v2, n_cl (p := v1 + 1) (by omega), n_cl (p := v2 + 1) (by omega), a28, b28, o11, o12]
    refine Pm_chk (fun _ _ => ?_)
    refine Pm_ite Iff.rfl (fun _ _ => ?_) (fun z _ => ?_)
    · refine Pm_suc rfl (fun k => by rw [x_pushOthers]) (fun k => by rw [x_pushOthers]) (fun k2 hk2 => ?_)
      exact Pm_some ⟨w, by omega, hK⟩
    have hiq : i < q := by
      by_cases c : i < q
      · exact c
      · exact absurd ((n_le (by omega) (by omega)).mpr (by omega)) z
    obtain ⟨u, v, u1, u2, u3, u4, u5, u6, u7⟩ := hM i hiq
    rw [show nI v1 + 4 = nI (v1 + 4) from n_add (q := 4) (by omega), show nI v2 + 4 = nI (v2 + 4) from n_add (q := 4) (by omega), n_add (p := v1 + 4) (by omega), n_add (p := v2 + 4) (by omega), n_cl (p := v1 + 4 + i) (by omega), n_cl (p := v2 + 4 + i) (by omega), u1, u2, show nI u + 4 = nI (u + 4) from n_add (q := 4) (by omega), show nI v + 4 = nI (v + 4) from n_add (q := 4) (by omega), n_cl (p := u + 4) (by omega), n_cl (p := v + 4) (by omega)]
    refine Pm_chk (fun _ _ => ?_)
    refine Pm_chk (fun _ _ => ?_)
    obtain ⟨c, d, c1, c2, c3, c4, c5, c6, c7⟩ := u6
    rw [c1, c3]
    have b2 : ∀ (m' w' : Nat) (M1 M2 : Nat → Int32) (υ1 υ2 : MS), m' < m → w' ≤ i + 1 → M1 1 = nI v1 → M2 1 = nI v2 → M1 2 = nI a1 → M2 2 = nI a2 → M1 3 = nI i → M2 3 = nI i → KPu g1 g2 f w' σ1 σ2 υ1 υ2 → Pm m' (fun k => x_pushOthers k 2 M1 υ1) (fun k => x_pushOthers k 2 M2 υ2) (fun r1 r2 => ∃ w, w ≤ q ∧ KPu g1 g2 f w σ1 σ2 r1.2 r2.2) := fun m' w' M1 M2 υ1 υ2 hm' hw' s1 r1 s2 r2 s3 r3 hK' => by
      refine Pm_suc rfl (fun k => by rw [x_pushOthers]) (fun k => by rw [x_pushOthers]) (fun k2 hk2 => ?_)
      exact ih k2 (by omega) (i + 1) w' _ _ _ _ (by omega) hw' s1 r1 s2 r2 (by show M1 3 + 1 = _; rw [s3, n_add1]) (by show M2 3 + 1 = _; rw [r3, n_add1]) hK'
    refine Pm_ob (k_compare (PuS_HS hK.1 hS1) (PuS_HS hK.2.1 hS2) c2 ha1 c4 ha2 (by rw [a28, b28]; exact c5) (by rw [a28, b28]; exact va) rfl rfl rfl rfl) (fun r1 r2 hr => ?_)
    rw [hr.1, hr.2.1, hr.2.2]
    refine Pm_ite Iff.rfl (fun _ _ => b2 k1 w _ _ _ _ (by omega) (by omega) x1 y1 x2 y2 x3 y3 hK) (fun _ _ => ?_)
    exact Pm_ob (k_push hK (by omega) u5 rfl rfl) (fun s1 s2 hs => b2 k1 (w + 1) _ _ _ _ (by omega) (by omega) x1 y1 x2 y2 x3 y3 hs)
  refine Pm_suc rfl (fun k => by rw [x_pushOthers]) (fun k => by rw [x_pushOthers]) (fun m1 _ => ?_)
  exact b1 m1 0 0 _ _ _ _ (Nat.zero_le _) (Nat.le_refl _) d1 f1 d2 f2 rfl rfl (KPu_0 t1 t2)
end KPL
