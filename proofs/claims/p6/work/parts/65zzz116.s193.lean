/-! Two runs side by side (reference): ranges. -/
section KRG
variable {g1 g2 g1' g2' g1'' g2'' : Nat → Prop} {l1 l2 l1' l2' l1'' l2'' : List Nat} {B1 h1 B2 h2 h1' h2' h1'' h2'' n : Nat} {σ1 σ2 τ1 τ2 : MS}
theorem Pm_and {Q R : Int32 × MS → Int32 × MS → Prop} {x1 x2 : Nat → Option (Int32 × MS)} (t : Pm n x1 x2 Q) (u : Pm n x1 x2 R) : Pm n x1 x2 (fun r1 r2 => Q r1 r2 ∧ R r1 r2) := fun k hk r1 r2 a b => ⟨t k hk r1 r2 a b, u k hk r1 r2 a b⟩
/-- an operation, well or not -/
theorem KQ_g0 {K t : Nat} {r1 r2 : Int32 × MS} (hK : K ≤ 1000000) (hS1 : HS g1 l1 B1 h1 σ1) (hS2 : HS g2 l2 B2 h2 σ2) (a : VO g1 B1 h1 t σ1 r1) (b : VO g2 B2 h2 t σ2 r2) (q : KQ h1 h2 K r1 r2) : ∃ (g1' : Nat → Prop) (l1' : List Nat) (h1' : Nat) (g2' : Nat → Prop) (l2' : List Nat) (h2' : Nat), HG g1 B1 h1 σ1 r1.2 g1' l1' h1' ∧ HG g2 B2 h2 σ2 r2.2 g2' l2' h2' ∧ FW t σ1 r1.2 ∧ FW t σ2 r2.2 ∧ r1.2.1 59 = nI t ∧ r2.2.1 59 = nI t ∧ (r1.2.1 56 = 0 → VC g1' g2' (r1.2.2.2 28) (r2.2.2.2 28) r1.1 r2.1) ∧ h1' ≤ h1 + K ∧ h2' ≤ h2 + K := by
  by_cases e : r1.2.1 56 = 0
  · obtain ⟨g1', l1', h1', g2', l2', h2', a1, a2, a3, a4, a5, a6, a7, a8, a9, a10⟩ := KQ_gr hK hS1 hS2 a b q e
    exact ⟨g1', l1', h1', g2', l2', h2', a1, a2, a3, a4, a5, a6, fun _ => a8, a9, a10⟩
  · obtain ⟨g1', l1', h1', a1, a2, a3, a4, a5, a6⟩ := a
    obtain ⟨g2', l2', h2', b1, b2, b3, b4, b5, b6⟩ := b
    obtain ⟨q1, q2, p1, p2, c1, c2, c3, c4⟩ := q
    have w1 := HS_b hS1
    have w2 := HS_b hS2
    have u1 := HS_b a1.1
    have u2 := HS_b b1.1
    have f1 : h1' = p1 := (n_eq (by omega) (by omega)).mp (a1.1.2.2.1.symm.trans c1)
    have f2 : h2' = p2 := (n_eq (by omega) (by omega)).mp (b1.1.2.2.1.symm.trans c2)
    exact ⟨g1', l1', h1', g2', l2', h2', a1, b1, a2, b2, a3, b3, fun z => absurd z e, by omega, by omega⟩
/-- the state goes on while values lie upon both piles -/
theorem KPx_st {f w K K' : Nat} {υ1 υ2 : MS} (hK : KPx g1 g2 B1 h1 B2 h2 f w K σ1 σ2 τ1 τ2 g1' l1' h1' g2' l2' h2') (a1 : HG g1' B1 h1' τ1 υ1 g1'' l1'' h1'') (a2 : HG g2' B2 h2' τ2 υ2 g2'' l2'' h2'') (f1 : FW (f + w) τ1 υ1) (f2 : FW (f + w) τ2 υ2) (t1 : υ1.1 59 = nI (f + w)) (t2 : υ2.1 59 = nI (f + w)) (e1 : υ1.1 56 = 0) (e2 : υ2.1 56 = 0) (b1 : h1'' ≤ h1' + K') (b2 : h2'' ≤ h2' + K') : KPx g1 g2 B1 h1 B2 h2 f w (K + K') σ1 σ2 υ1 υ2 g1'' l1'' h1'' g2'' l2'' h2'' := by
  obtain ⟨q1, q2, q3, q4, q5, q6, q7, q8, q9, q10, q11⟩ := hK
  refine ⟨HG_tr q1 a1, HG_tr q2 a2, FW_tr q3 (FW_mo f1 (by omega)), FW_tr q4 (FW_mo f2 (by omega)), t1, t2, fun i hi => ?_, e1, e2, by omega, by omega⟩
  show VC g1'' g2'' (υ1.2.2 28) (υ2.2.2 28) (υ1.2.2 29 (f + i)) (υ2.2.2 29 (f + i))
  rw [f1.2.2 (f + i) (by omega), f2.2.2 (f + i) (by omega)]
  exact VC_g2 q1.1 q2.1 a1 a2 (q7 i hi)
/-- two wholes that hold the same -/
def RgE (g1 g2 : Nat → Prop) (τ1 τ2 : MS) (x y : Int32) : Prop := ∃ a1 a2, x = nI a1 ∧ y = nI a2 ∧ g1 a1 ∧ g2 a2 ∧ EVb (τ1.2.2 28) (τ2.2.2 28) a1 a2 ∧ kdN (τ1.2.2 28) a1 = 2
theorem RgE_VC {x y : Int32} (hS1 : HS g1 l1 B1 h1 τ1) (hS2 : HS g2 l2 B2 h2 τ2) (h : RgE g1 g2 τ1 τ2 x y) : VC g1 g2 (τ1.2.2 28) (τ2.2.2 28) x y := by
  obtain ⟨a1, a2, e1, e2, c1, c2, ev, k⟩ := h
  rw [e1, e2]
  exact VC_ev hS1 hS2 (Or.inr c1) (Or.inr c2) ev
theorem RgE_c {x y : Int32} {υ1 υ2 : MS} (h : RgE g1 g2 τ1 τ2 x y) (c1 : υ1.2.2 28 = τ1.2.2 28) (c2 : υ2.2.2 28 = τ2.2.2 28) : RgE g1 g2 υ1 υ2 x y := by
  unfold RgE; rw [c1, c2]; exact h
theorem RgE_g {x y : Int32} {υ1 υ2 : MS} (hS1 : HS g1 l1 B1 h1 τ1) (hS2 : HS g2 l2 B2 h2 τ2) (a1 : HG g1 B1 h1 τ1 υ1 g1' l1' h1') (a2 : HG g2 B2 h2 τ2 υ2 g2' l2' h2') (h : RgE g1 g2 τ1 τ2 x y) : RgE g1' g2' υ1 υ2 x y := by
  obtain ⟨c1, c2, e1, e2, c3, c4, ev, k⟩ := h
  refine ⟨c1, c2, e1, e2, a1.2.1 _ c3, a2.2.1 _ c4, EVb_g2 hS1.2.2.2.2 (HS_b hS1).2 a1.2.2.2 hS2.2.2.2.2 (HS_b hS2).2 a2.2.2.2 (Or.inr c3) (Or.inr c4) ev, ?_⟩
  rw [(EVb_sz (EVb_gr hS1.2.2.2.2 (HS_b hS1).2 a1.2.2.2 (Or.inr c3))).2.2]
  exact k
theorem RgE_cmp {x y u v : Int32} (hS1 : HS g1 l1 B1 h1 τ1) (hS2 : HS g2 l2 B2 h2 τ2) (hx : RgE g1 g2 τ1 τ2 x y) (hy : RgE g1 g2 τ1 τ2 u v) {L1 L2 : Nat → Int32} (d1 : L1 1 = x) (d2 : L1 2 = u) (f1 : L2 1 = y) (f2 : L2 2 = v) : Pm n (fun k => x_compareWholes k 0 L1 τ1) (fun k => x_compareWholes k 0 L2 τ2) (fun r1 r2 => r1.1 = r2.1 ∧ r1.2 = τ1 ∧ r2.2 = τ2) := by
  obtain ⟨a1, a2, e1, e2, c3, c4, ev, k⟩ := hx
  obtain ⟨b1, b2, e3, e4, c5, c6, ev', k'⟩ := hy
  obtain ⟨p, hA⟩ := WhE_of hS1 hS2 (Or.inr c3) (Or.inr c4) ev k
  obtain ⟨q, hB⟩ := WhE_of hS1 hS2 (Or.inr c5) (Or.inr c6) ev' k'
  have z1 := hA.1
  have z2 := hA.2.1
  have z3 := hB.1
  have z4 := hB.2.1
  have y1 := z1.2.2.1
  have y3 := z3.2.2.1
  have q1 := d1.trans e1
  have q2 := d2.trans e3
  have q3 := f1.trans e2
  have q4 := f2.trans e4
  exact Pm_un (s_compareWholes hS1 z1.1 z3.1 (by omega) (by omega) z1.2.2.2.1 z3.2.2.2.1 z1.2.1 z3.2.1 q1 q2) (fun k => f_compareWholes k _ _ _) (s_compareWholes hS2 z2.1 z4.1 (by omega) (by omega) z2.2.2.2.1 z4.2.2.2.1 z2.2.1 z4.2.1 q3 q4) (fun k => f_compareWholes k _ _ _) (k_compareWholes hS1 hS2 z1.1 z2.1 z3.1 z4.1 (by omega) (by omega) z1.2.1 z3.2.1 z1.2.2.2.1 z2.2.2.2.1 z3.2.2.2.1 z4.2.2.2.1 hA.2.2 hB.2.2 q1 q2 q3 q4)
/-- what is made without an error is a whole -/
theorem RgE_W {ok : Prop} {t : Nat} {r1 r2 : Int32 × MS} (z : r1.2.1 56 = 0) (w1 : VW ok g1 B1 h1 t τ1 r1) (vc : VC g1' g2' (r1.2.2.2 28) (r2.2.2.2 28) r1.1 r2.1) : RgE g1' g2' r1.2 r2.2 r1.1 r2.1 := by
  obtain ⟨m, m', x1, x2, x3, x4, x5, x6, x7⟩ := vc
  obtain ⟨G, LL, HH, o1, _, _, _, _, _, o7, _, kk⟩ := w1
  have kk := kk z m x1 x6
  have m3 : 3 ≤ m := by
    obtain ⟨v, nn, ev2, gv, _⟩ := o7 z
    have vb := HS_vb o1.1 (Or.inr gv)
    have em : m = v := (n_eq (by omega) (by omega)).mp (x1.symm.trans ev2)
    obtain ⟨_, _, _, _, _, y2, _⟩ := HS_at o1.1 gv
    omega
  have hm1 : g1' m := by
    rcases x2 with c | c
    · omega
    · exact c
  have hm2 : g2' m' := by
    rcases x4 with c | c
    · rcases EVb_3 x5 with y | y <;> omega
    · exact c
  refine ⟨m, m', x1, x3, hm1, hm2, x5, ?_⟩
  unfold kdN
  rw [if_neg (by omega), if_neg (by omega), kk]
  rfl
/-- two wholes are added: the answer is a whole, or both have an error -/
theorem RgE_add {x y u v : Int32} {f : Nat} (hS1 : HS g1 l1 B1 h1 τ1) (hS2 : HS g2 l2 B2 h2 τ2) (e1 : τ1.1 56 = 0) (e2 : τ2.1 56 = 0) (t1 : τ1.1 59 = nI f) (t2 : τ2.1 59 = nI f) (hf : f ≤ 177000) (hr1 : h1 + 70 ≤ B1 + 870000) (hr2 : h2 + 70 ≤ B2 + 870000) (hx : RgE g1 g2 τ1 τ2 x y) (hy : RgE g1 g2 τ1 τ2 u v) {L1 L2 : Nat → Int32} (d1 : L1 1 = x) (d2 : L1 2 = u) (f1 : L2 1 = y) (f2 : L2 2 = v) (d3 : L1 3 = 1 ∨ L1 3 = -1) (hL : LE3 L1 L2) : Pm n (fun k => x_add k 0 L1 τ1) (fun k => x_add k 0 L2 τ2) (fun r1 r2 => (r1.2.1 56 = 0 ↔ r2.2.1 56 = 0) ∧ ErB r1.2 ∧ ErB r2.2 ∧ ∃ (g1' : Nat → Prop) (l1' : List Nat) (h1' : Nat) (g2' : Nat → Prop) (l2' : List Nat) (h2' : Nat), HG g1 B1 h1 τ1 r1.2 g1' l1' h1' ∧ HG g2 B2 h2 τ2 r2.2 g2' l2' h2' ∧ FW f τ1 r1.2 ∧ FW f τ2 r2.2 ∧ r1.2.1 59 = nI f ∧ r2.2.1 59 = nI f ∧ (r1.2.1 56 = 0 → RgE g1' g2' r1.2 r2.2 r1.1 r2.1) ∧ h1' ≤ h1 + 70 ∧ h2' ≤ h2 + 70) := by
  obtain ⟨a1, a2, i1, i2, c3, c4, ev, k⟩ := hx
  obtain ⟨b1, b2, i3, i4, c5, c6, ev', k'⟩ := hy
  obtain ⟨p, hA⟩ := WhE_of hS1 hS2 (Or.inr c3) (Or.inr c4) ev k
  obtain ⟨q, hB⟩ := WhE_of hS1 hS2 (Or.inr c5) (Or.inr c6) ev' k'
  have q1 := d1.trans i1
  have q2 := d2.trans i3
  have q3 := f1.trans i2
  have q4 := f2.trans i4
  refine Pm_mono (Pm_un (s_addW ⟨hS1, t1, hf, ⟨0, e1, by decide⟩⟩ hA.1 hB.1 q1 q2 d3) (fun k => f_add k _ _ _) (s_addW ⟨hS2, t2, hf, ⟨0, e2, by decide⟩⟩ hA.2.1 hB.2.1 q3 q4 (by rw [← hL 3 (by omega)]; exact d3)) (fun k => f_add k _ _ _) (k_add hS1 hS2 e1 e2 hr1 hr2 hA hB q1 q2 q3 q4 hL)) (fun r1 r2 hr => ?_)
  obtain ⟨hq, w1, w2⟩ := hr
  have v1 := VW_VO w1
  have v2 := VW_VO w2
  obtain ⟨g1', l1', h1', g2', l2', h2', s1, s2, s3, s4, s5, s6, s7, s8, s9⟩ := KQ_g0 (by omega) hS1 hS2 v1 v2 hq
  refine ⟨hq.1, VO_E v1, VO_E v2, g1', l1', h1', g2', l2', h2', s1, s2, s3, s4, s5, s6, fun z => ?_, s8, s9⟩
  exact RgE_W z w1 (s7 z)
end KRG
