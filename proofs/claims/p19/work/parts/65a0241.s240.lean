section JnS240
/-! Statements on both sides (reference): what a step of an iterator gives, names are written. -/
section SVA
variable {T : Nat → Nat → Int32} {FN : Nat → Nat → Prop} {lc cn : Nat → Prop} {t w XC : Nat} {σ σ1 σ2 : MS}
/-- a member of a row that lies at a place -/
theorem Rt_val {g1 g2 : Nat → Prop} {l1 l2 : List Nat} {B1 h1 X1 B2 h2 X2 a0 i0 v1 v2 k p : Nat} (hX : EIx t w XC σ1 σ2 g1 l1 B1 h1 X1 g2 l2 B2 h2 X2) (rt1 : RtP t σ1 a0 i0) (hvw : ¬ VwR a0) (a1 : σ1.2.2 a0 i0 = nI v1) (a2 : σ2.2.2 a0 i0 = nI v2) (b1 : v1 < 1740000) (b2 : v2 < 1740000) (k5 : 5 ≤ kdN (σ1.2.2 28) v1) (hp : σ1.2.2 28 (v1 + 1) = nI p) (hp2 : p ≤ 3996) (hk : k < p) :
    ∃ a b, σ1.2.2 28 (v1 + 4 + k) = nI a ∧ σ2.2.2 28 (v2 + 4 + k) = nI b ∧ (a < 3 ∨ g1 a) ∧ (b < 3 ∨ g2 b) ∧ EVb (σ1.2.2 28) (σ2.2.2 28) a b ∧ VC g1 g2 (σ1.2.2 28) (σ2.2.2 28) (nI a) (nI b) ∧ (a < 3 ∨ Rch (σ1.2.2 28) (RoS t σ1) a) ∧ (b < 3 ∨ Rch (σ2.2.2 28) (RoS t σ2) b) ∧ (kdN (σ1.2.2 28) a = 5 → ∃ q, σ1.2.2 28 (a + 1) = nI q ∧ σ2.2.2 28 (b + 1) = nI q ∧ q ≤ 3996 ∧ a + 4 + q ≤ 1740000 ∧ b + 4 + q ≤ 1740000 ∧ ∀ i, i < q → VC g1 g2 (σ1.2.2 28) (σ2.2.2 28) (σ1.2.2 28 (a + 4 + i)) (σ2.2.2 28 (b + 4 + i)) ∧ (∃ m, σ1.2.2 28 (a + 4 + i) = nI m ∧ (m < 3 ∨ Rch (σ1.2.2 28) (RoS t σ1) m)) ∧ ∃ m, σ2.2.2 28 (b + 4 + i) = nI m ∧ (m < 3 ∨ Rch (σ2.2.2 28) (RoS t σ2) m)) := by
  obtain ⟨m1, m2, hR, _⟩ := hX
  have rt2 := (RA_rt m1.2.1 hR t a0 i0).mpr rt1
  obtain ⟨x1, x2, y1, y2, y3, y4, y5, y6, y7⟩ := hR.1 a0 i0 rt1 hvw
  have ex1 : x1 = v1 := (n_eq (by omega) (by omega)).mp (y1.symm.trans a1)
  have ex2 : x2 = v2 := (n_eq (by omega) (by omega)).mp (y3.symm.trans a2)
  subst ex1
  subst ex2
  obtain ⟨kk, p', hO⟩ := OE_of m1.1 m2.1 (kdN_ge m1.1 y2 (by omega)) y4 y5
  obtain ⟨gv1, gv2, o3, o4, o5, o6, o7, o8, o9, o10, o11, o12, o13, o14, o15, o16, o17⟩ := hO
  have ep : p' = p := (n_eq (by omega) (by omega)).mp (o11.symm.trans hp)
  subst ep
  obtain ⟨a, b, c1, c2, c3, c4, c5, c6, c7⟩ := o16 (by omega) k hk
  have r1 : Rch (σ1.2.2 28) (RoS t σ1) x1 := Rch_b ⟨o3, by omega, a0, i0, rt1, a1⟩
  have r2 : Rch (σ2.2.2 28) (RoS t σ2) x2 := Rch_b ⟨o4, by omega, a0, i0, rt2, a2⟩
  have ra := Rch_mem m1.1 r1 k5 gv1 o11 o6 hk c1 c2
  have rb := Rch_mem m2.1 r2 (by rw [o8]; omega) gv2 o12 o6 hk c3 c4
  refine ⟨a, b, c1, c3, c2, c4, c5, ⟨a, b, rfl, c2, rfl, c4, c5, c6, c7⟩, ra, rb, fun ka => ?_⟩
  have ga := kdN_ge m1.1 c2 (by omega)
  have gb := kdN_ge m2.1 c4 (by rw [(EVb_sz c5).2.2]; omega)
  obtain ⟨kq, q, hQ⟩ := OE_of m1.1 m2.1 ga c4 c5
  obtain ⟨_, _, q3, q4, q5, q6, q7, q8, q9, q10, q11, q12, q13, q14, q15, q16, q17⟩ := hQ
  refine ⟨q, q11, q12, q6, q13, q14, fun i hi => ?_⟩
  obtain ⟨c, d', s1, s2, s3, s4, s5, s6, s7⟩ := q16 (by omega) i hi
  refine ⟨⟨c, d', s1, s2, s3, s4, s5, s6, s7⟩, ⟨c, s1, ?_⟩, ⟨d', s3, ?_⟩⟩
  · exact Rch_mem m1.1 (ra.resolve_left (by omega)) (by omega) ga q11 q6 hi s1 s2
  · exact Rch_mem m2.1 (rb.resolve_left (by omega)) (by omega) gb q12 q6 hi s3 s4
theorem EIx_64 {g1 g2 : Nat → Prop} {l1 l2 : List Nat} {B1 h1 X1 B2 h2 X2 : Nat} {z : Int32} (hX : EIx t w XC σ1 σ2 g1 l1 B1 h1 X1 g2 l2 B2 h2 X2) : EIx t w XC (mSc σ1 64 z) (mSc σ2 64 z) g1 l1 B1 h1 X1 g2 l2 B2 h2 X2 := by
  obtain ⟨m1, m2, hR, i1, i2, t1, e1, e2, w1, hw, x1, x2, ty, a, a1, a2⟩ := hX
  refine ⟨MI_c m1 rfl rfl rfl rfl rfl, MI_c m2 rfl rfl rfl rfl rfl, RA_c hR rfl rfl rfl rfl rfl rfl rfl rfl (fun j hj => ?_) hR.2.2.2, IT_c rfl rfl rfl rfl i1, IT_c rfl rfl rfl rfl i2, t1, e1, e2, w1, hw, x1, x2, ty, a, a1, a2⟩
  show upd σ1.1 64 z j = upd σ2.1 64 z j
  by_cases e : j = 64
  · rw [e, upd_same, upd_same]
  · rw [upd_other e, upd_other e]; exact hR.2.2.1 j hj
/-- a new character is written -/
theorem E_asgL {g1 g2 : Nat → Prop} {l1 l2 : List Nat} {B1 h1 X1 B2 h2 X2 n s m1 m2 : Nat} (hXC : XC ≤ 402000) (hS : Sc1 T FN lc cn σ1) (hX : EIx t w XC σ1 σ2 g1 l1 B1 h1 X1 g2 l2 B2 h2 X2) (U1 : UT σ1) (U2 : UT σ2) (hn : NmW T lc cn n s) (y1 : X1 + 5 ≤ XC + 6 * w) (y2 : X2 + 5 ≤ XC + 6 * w) (gm1 : g1 m1) (gm2 : g2 m2) (vc : VC g1 g2 (σ1.2.2 28) (σ2.2.2 28) (nI m1) (nI m2)) (ka : σ1.2.2 28 m1 = nI 4) (kb : σ2.2.2 28 m2 = nI 4) (la : σ1.2.2 28 (m1 + 1) = nI 1) (lb : σ2.2.2 28 (m2 + 1) = nI 1) {L1 L2 : Nat → Int32} (d1 : L1 1 = nI n) (d2 : L2 1 = nI n) (x1 : L1 2 = nI m1) (x2 : L2 2 = nI m2) : T2 (fun k => x_assign k 0 L1 σ1) (fun k => x_assign k 0 L2 σ2) (fun r1 r2 => SQ t t w XC σ1 σ2 r1.2 r2.2) := by
  have leaf : ∀ {x : Int32}, x = nI 4 → ¬ (x = nI 5 ∨ x = nI 6) := fun h => by rw [h]; decide
  refine T2_mono (E_asg0 hXC hS hX U1 U2 hn vc (fun z i pl => ?_) d1 d2 x1 x2) (fun r1 r2 hr => hr.1)
  have hE := EIx_64 (z := z) hX
  exact EI_bdG hE pl (MI_bdL hE.1 pl gm1 (leaf ka) la) (MI_bdL hE.2.1 pl gm2 (leaf kb) lb) vc y1 y2
theorem s_asgZ {τ : MS} (he : ¬ τ.1 56 ≤ 0) {L : Nat → Int32} : Tm (fun n => x_assign n 0 L τ) (fun r => r = (0, τ)) := by
  refine Tm_suc (fun n => by rw [x_assign]) ?_
  exact Tm_ite (fun z => absurd z he) (fun _ => Tm_some rfl)
/-- names of an iterator are counted -/
theorem sf_7 {Q : Int32 × MS → Prop} (hT : ∀ a i, 4 ≤ a → a ≤ 11 → ((a ≤ 9 → (1 ≤ i ∧ i < LNo T % 70001)) ∧ (10 ≤ a → i < SNo T % 402)) → σ.2.2 a i = T a i) : ∀ (q j : Nat) (x : Int32) (N : Nat → Int32), q + j ≤ 1000 → NmL T lc cn q x → N 6 = nI j → N 7 = x → (∀ M : Nat → Int32, M 6 = nI (q + j) → (∀ i, i ≠ 6 → i ≠ 7 → M i = N i) → Tm (fun k => x_stepFor k 8 M σ) Q) → Tm (fun k => x_stepFor k 7 N σ) Q := by
  intro q
  induction q with
  | zero =>
    intro j x N hj hL n6 n7 hQ
    have hL : x = -1 := hL
    refine Tm_suc (fun k => by rw [x_stepFor]) ?_
    rw [n7, hL]
    refine Tm_ite (fun _ => ?_) (fun z => absurd rfl z)
    exact hQ N (by rw [Nat.zero_add]; exact n6) (fun _ _ _ => rfl)
  | succ q ih =>
    intro j x N hj hL n6 n7 hQ
    obtain ⟨a, s, xa, hn, hL⟩ := hL
    have ha := hn.1
    refine Tm_suc (fun k => by rw [x_stepFor]) ?_
    rw [n7, n6, xa]
    refine Tm_ite (fun z => absurd z (ne_m1 ha)) (fun _ => ?_)
    refine Tm_chk (n_in (by omega) (by omega)) ?_
    rw [n_cl (p := a) (by omega), hT 9 _ (by omega) (by omega) (by omega), n_add1]
    refine ih (j + 1) (T 9 a) _ (by omega) hL rfl rfl (fun M m6 mo => hQ M (by rw [m6]; congr 1; omega) (fun i h1 h2 => ?_))
    rw [mo i h1 h2, upd_other h2, upd_other h1]
/-- behind the writing of names -/
def NWq (t w XC : Nat) (σ1 σ2 : MS) (r1 r2 : Int32 × MS) : Prop := r1.1 = r2.1 ∧ FSt σ1 r1.2 ∧ FSt σ2 r2.2 ∧ UT r1.2 ∧ UT r2.2 ∧ ((r1.1 = 1 ∧ ∃ w', w ≤ w' ∧ EI t w' XC r1.2 r2.2) ∨ (r1.1 = 0 ∧ EZ t t r1.2 ∧ EZ t t r2.2))
theorem sf_14 {σ0 σ0' : MS} {N1 N2 : Nat → Int32} {τ1 τ2 : MS} (f1 : FSt σ0 τ1) (f2 : FSt σ0' τ2) (V1 : UT τ1) (V2 : UT τ2) (h : (∃ w', w ≤ w' ∧ EI t w' XC τ1 τ2) ∨ (EZ t t τ1 ∧ EZ t t τ2)) : T2 (fun k => x_stepFor k 14 N1 τ1) (fun k => x_stepFor k 14 N2 τ2) (NWq t w XC σ0 σ0') := by
  refine T2_suc (fun k => by rw [x_stepFor]) (fun k => by rw [x_stepFor]) ?_
  rcases h with ⟨w', hw, hJ⟩ | ⟨z1, z2⟩
  · obtain ⟨e1, e2⟩ := EI_e hJ
    rw [e1, e2]
    refine T2_ite Iff.rfl (fun _ _ => ?_) (fun z _ => absurd rfl z)
    refine T2_suc (fun k => by rw [x_stepFor]) (fun k => by rw [x_stepFor]) ?_
    exact T2_chk (Or.inr rfl) (Or.inr rfl) (T2_some ⟨rfl, f1, f2, V1, V2, Or.inl ⟨rfl, w', hw, hJ⟩⟩)
  · refine T2_ite ⟨fun z => absurd z (EZ_e z1), fun z => absurd z (EZ_e z2)⟩ (fun z _ => absurd z (EZ_e z1)) (fun _ _ => ?_)
    refine T2_suc (fun k => by rw [x_stepFor]) (fun k => by rw [x_stepFor]) ?_
    refine T2_suc (fun k => by rw [x_stepFor]) (fun k => by rw [x_stepFor]) ?_
    exact T2_chk (Or.inl rfl) (Or.inl rfl) (T2_some ⟨rfl, f1, f2, V1, V2, Or.inr ⟨rfl, z1, z2⟩⟩)
/-- with an error: the rest of the names is left -/
theorem sf_11z {b : Nat} {τ : MS} (hT : ∀ a i, 4 ≤ a → a ≤ 11 → ((a ≤ 9 → (1 ≤ i ∧ i < LNo T % 70001)) ∧ (10 ≤ a → i < SNo T % 402)) → τ.2.2 a i = T a i) (he : ¬ τ.1 56 ≤ 0) {a qa : Nat} (h28 : τ.2.2 28 (a + 1) = nI qa) (hqa : a + 4 + qa ≤ 1740000 ∧ qa ≤ 3996) : ∀ (q j : Nat) (x : Int32) (N : Nat → Int32), q + j ≤ 1000 → NmL T lc cn q x → N 5 = nI a → N 7 = nI j → N 8 = x → Tm (fun k => x_stepFor k 11 N τ) (fun r => r = (0, τ)) := by
  intro q
  induction q with
  | zero =>
    intro j x N hj hL n5 n7 n8
    have hL : x = -1 := hL
    refine Tm_suc (fun k => by rw [x_stepFor]) ?_
    rw [n8, hL]
    refine Tm_ite (fun _ => ?_) (fun z => absurd rfl z)
    refine Tm_suc (fun k => by rw [x_stepFor]) ?_
    refine Tm_ite (fun z => absurd (by rw [z]; decide) he) (fun _ => ?_)
    refine Tm_suc (fun k => by rw [x_stepFor]) ?_
    refine Tm_suc (fun k => by rw [x_stepFor]) ?_
    exact Tm_chk (Or.inl rfl) (Tm_some rfl)
  | succ q ih =>
    intro j x N hj hL n5 n7 n8
    obtain ⟨c, s, xa, hn, hL⟩ := hL
    have ha := hn.1
    have go : ∀ M : Nat → Int32, M 5 = nI a → M 7 = nI j → M 8 = nI c → Tm (fun k => x_stepFor k 13 M τ) (fun r => r = (0, τ)) := fun M m5 m7 m8 => by
      refine Tm_suc (fun k => by rw [x_stepFor]) ?_
      refine Tm_ob (s_asgZ he) (fun r hr => ?_)
      rw [hr, m7, m8, n_add1]
      refine Tm_chk (n_in (by omega) (by omega)) ?_
      show Tm (fun k => x_stepFor k 11 (upd (upd M 7 (nI (j + 1))) 8 (τ.2.2 9 (nI c).toNatClampNeg)) τ) _
      rw [n_cl (p := c) (by omega), hT 9 _ (by omega) (by omega) (by omega)]
      exact ih (j + 1) (T 9 c) _ (by omega) hL m5 rfl rfl
    refine Tm_suc (fun k => by rw [x_stepFor]) ?_
    rw [n8, n5, n7, xa, n_add1]
    refine Tm_ite (fun z => absurd z (ne_m1 ha)) (fun _ => ?_)
    refine Tm_chk (n_in (by omega) (by omega)) ?_
    rw [n_cl (p := a + 1) (by omega), h28]
    refine Tm_ite (fun _ => ?_) (fun z => ?_)
    · refine Tm_suc (fun k => by rw [x_stepFor]) ?_
      exact go _ n5 n7 (n8.trans xa)
    · have lt : j < qa := by
        by_cases y : qa ≤ j
        · exact absurd ((n_le (by omega) (by omega)).mpr y) z
        · omega
      rw [show nI a + 4 = nI (a + 4) from n_add (q := 4) (by omega), n_add (p := a + 4) (by omega)]
      refine Tm_chk (n_in (by omega) (by omega)) ?_
      exact go _ n5 n7 (n8.trans xa)
/-- names are written from a tuple -/
theorem sf_11 {σ0 σ0' : MS} {i0 v1 v2 k p a b qa : Nat} (hXC : XC ≤ 402000) (hi0 : 5314 ≤ i0) (bv1 : v1 < 1740000) (bv2 : v2 < 1740000) (hqa : a + 4 + qa ≤ 1740000 ∧ b + 4 + qa ≤ 1740000 ∧ qa ≤ 3996) (hp2 : p ≤ 3996) (hk : k < p) : ∀ (q j : Nat) (x : Int32) (N1 N2 : Nat → Int32) (τ1 τ2 : MS) (w' : Nat), w ≤ w' → q + j ≤ 1000 → NmL T lc cn q x → N1 5 = nI a → N2 5 = nI b → N1 7 = nI j → N2 7 = nI j → N1 8 = x → N2 8 = x → Sc1 T FN lc cn τ1 → FSt σ0 τ1 → FSt σ0' τ2 → UT τ1 → UT τ2 → EI t w' XC τ1 τ2 → RtP t τ1 30 i0 → τ1.2.2 30 i0 = nI v1 → τ2.2.2 30 i0 = nI v2 → 5 ≤ kdN (τ1.2.2 28) v1 → τ1.2.2 28 (v1 + 1) = nI p → τ1.2.2 28 (v1 + 4 + k) = nI a → τ2.2.2 28 (v2 + 4 + k) = nI b → kdN (τ1.2.2 28) a = 5 → τ1.2.2 28 (a + 1) = nI qa → τ2.2.2 28 (b + 1) = nI qa → T2 (fun k => x_stepFor k 11 N1 τ1) (fun k => x_stepFor k 11 N2 τ2) (NWq t w XC σ0 σ0') := by
  intro q
  induction q with
  | zero =>
    intro j x N1 N2 τ1 τ2 w' hw hj hL n5 o5 n7 o7 n8 o8 hS f1 f2 V1 V2 hJ rt c1 c2 c3 c4 c5 c6 c7 c8 c9
    have hL : x = -1 := hL
    refine T2_suc (fun k => by rw [x_stepFor]) (fun k => by rw [x_stepFor]) ?_
    rw [n8, o8, hL]
    refine T2_ite Iff.rfl (fun _ _ => ?_) (fun z _ => absurd rfl z)
    exact sf_14 f1 f2 V1 V2 (Or.inl ⟨w', hw, hJ⟩)
  | succ q ih =>
    intro j x N1 N2 τ1 τ2 w' hw hj hL n5 o5 n7 o7 n8 o8 hS f1 f2 V1 V2 hJ rt c1 c2 c3 c4 c5 c6 c7 c8 c9
    obtain ⟨c, s, xa, hn, hL⟩ := hL
    have ha := hn.1
    have hS2 := Sc1_ei hS hJ
    have val : ∀ (g1 : Nat → Prop) (l1 : List Nat) (B1 h1 X1 : Nat) (g2 : Nat → Prop) (l2 : List Nat) (B2 h2 X2 : Nat), EIx t w' XC τ1 τ2 g1 l1 B1 h1 X1 g2 l2 B2 h2 X2 → ∀ i, i < qa → VC g1 g2 (τ1.2.2 28) (τ2.2.2 28) (τ1.2.2 28 (a + 4 + i)) (τ2.2.2 28 (b + 4 + i)) ∧ (∃ m, τ1.2.2 28 (a + 4 + i) = nI m ∧ (m < 3 ∨ Rch (τ1.2.2 28) (RoS t τ1) m)) ∧ ∃ m, τ2.2.2 28 (b + 4 + i) = nI m ∧ (m < 3 ∨ Rch (τ2.2.2 28) (RoS t τ2) m) := by
      intro g1 l1 B1 h1 X1 g2 l2 B2 h2 X2 hE i hi
      obtain ⟨a', b', d1, d2, _, _, _, _, _, _, d9⟩ := Rt_val hE rt (by unfold VwR; omega) c1 c2 bv1 bv2 c3 c4 hp2 hk
      have bb := hE.1
      have ea : a' = a := by
        have := HS_vb hE.1.1 (by assumption)
        exact (n_eq (by omega) (by omega)).mp (d1.symm.trans c5)
      have eb : b' = b := by
        have := HS_vb hE.2.1.1 (by assumption)
        exact (n_eq (by omega) (by omega)).mp (d2.symm.trans c6)
      rw [ea, eb] at d9
      obtain ⟨q', s1, s2, s3, s4, s5, s6⟩ := d9 c7
      have eq : q' = qa := (n_eq (by omega) (by omega)).mp (s1.symm.trans c8)
      exact s6 i (by omega)
    have go : ∀ (y1 y2 : Int32) (M1 M2 : Nat → Int32), ((y1 = 0 ∧ y2 = 0) ∨ ∃ i, i < qa ∧ y1 = τ1.2.2 28 (a + 4 + i) ∧ y2 = τ2.2.2 28 (b + 4 + i)) → M1 100 = y1 → M2 100 = y2 → M1 101 = nI c → M2 101 = nI c → M1 5 = nI a → M2 5 = nI b → M1 7 = nI j → M2 7 = nI j → M1 8 = nI c → M2 8 = nI c → T2 (fun k => x_stepFor k 13 M1 τ1) (fun k => x_stepFor k 13 M2 τ2) (NWq t w XC σ0 σ0') := by
      intro y1 y2 M1 M2 hy m0 m0' m1 m1' m5 m5' m7 m7' m8 m8'
      refine T2_suc (fun k => by rw [x_stepFor]) (fun k => by rw [x_stepFor]) ?_
      rw [m0, m0', m1, m1']
      refine T2_ob (E_assX (x := y1) (y := y2) hXC hS hJ V1 V2 hn (fun g1 l1 B1 h1 X1 g2 l2 B2 h2 X2 hE => ?_) rfl rfl rfl rfl) (fun r1 r2 hr => ?_)
      · rcases hy with ⟨e1, e2⟩ | ⟨i, hi, e1, e2⟩
        · rw [e1, e2]; exact ⟨VC_00, ⟨0, rfl, Or.inl (by decide)⟩, ⟨0, rfl, Or.inl (by decide)⟩⟩
        · rw [e1, e2]; exact val g1 l1 B1 h1 X1 g2 l2 B2 h2 X2 hE i hi
      obtain ⟨⟨g1, g2, g3, g4, g5⟩, ⟨A1, A2⟩, A3, A4⟩ := hr
      rw [m7, m7', m8, m8', n_add1]
      refine T2_chk (n_in (by omega) (by omega)) (n_in (by omega) (by omega)) ?_
      rw [n_cl (p := c) (by omega), (Sc1_fs hS g1).1.1.1 9 _ (by omega) (by omega) (by omega), (Sc1_fs hS2 g2).1.1.1 9 _ (by omega) (by omega) (by omega)]
      have t28 : r1.2.2.2 28 = τ1.2.2 28 := A1 28 (by decide)
      have u28 : r2.2.2.2 28 = τ2.2.2 28 := A3 28 (by decide)
      rcases g5 with ⟨w2, hw2, hJ'⟩ | ⟨z1, z2⟩
      · refine ih (j + 1) (T 9 c) _ _ r1.2 r2.2 w2 (by omega) (by omega) hL m5 m5' rfl rfl rfl rfl (Sc1_fs hS g1) (FS_tr f1 g1) (FS_tr f2 g2) g3 g4 hJ' ?_ ?_ ?_ ?_ ?_ ?_ ?_ ?_ ?_ ?_
        · rcases rt with z | ⟨z, y⟩ | z
          · omega
          · exact Or.inr (Or.inl ⟨z, (StI_c (g1.2.1 30 1 (by unfold AlR; omega) (by unfold Zn; omega) (by omega)) (g1.2.1 30 3 (by unfold AlR; omega) (by unfold Zn; omega) (by omega))).mpr y⟩)
          · exact absurd z (by rintro (⟨z, _⟩ | z) <;> omega)
        · rw [A2 i0 (by omega)]; exact c1
        · rw [A4 i0 (by omega)]; exact c2
        · rw [t28]; exact c3
        · rw [t28]; exact c4
        · rw [t28]; exact c5
        · rw [u28]; exact c6
        · rw [t28]; exact c7
        · rw [t28]; exact c8
        · rw [u28]; exact c9
      · refine T2_mono (T2_t (sf_11z (b := 0) (τ := r1.2) (T := T) (Sc1_fs hS g1).1.1.1 (EZ_le z1) (a := a) (qa := qa) (by rw [t28]; exact c8) ⟨hqa.1, hqa.2.2⟩ q (j + 1) (T 9 c) _ (by omega) hL m5 rfl rfl) (sf_11z (b := 0) (τ := r2.2) (T := T) (Sc1_fs hS2 g2).1.1.1 (EZ_le z2) (a := b) (qa := qa) (by rw [u28]; exact c9) ⟨hqa.2.1, hqa.2.2⟩ q (j + 1) (T 9 c) _ (by omega) hL m5' rfl rfl)) (fun s1 s2 hs => ?_)
        rw [hs.1, hs.2]
        exact ⟨rfl, FS_tr f1 g1, FS_tr f2 g2, g3, g4, Or.inr ⟨rfl, z1, z2⟩⟩
    refine T2_suc (fun k => by rw [x_stepFor]) (fun k => by rw [x_stepFor]) ?_
    rw [n8, o8, n5, o5, n7, o7, xa, n_add1, n_add1]
    refine T2_ite Iff.rfl (fun z _ => absurd z (ne_m1 ha)) (fun _ _ => ?_)
    refine T2_chk (n_in (by omega) (by omega)) (n_in (by omega) (by omega)) ?_
    rw [n_cl (p := a + 1) (by omega), n_cl (p := b + 1) (by omega), c8, c9]
    refine T2_ite Iff.rfl (fun _ _ => ?_) (fun z _ => ?_)
    · refine T2_suc (fun k => by rw [x_stepFor]) (fun k => by rw [x_stepFor]) ?_
      exact go 0 0 _ _ (Or.inl ⟨rfl, rfl⟩) rfl rfl rfl rfl n5 o5 n7 o7 (n8.trans xa) (o8.trans xa)
    · have lt : j < qa := by
        by_cases y : qa ≤ j
        · exact absurd ((n_le (by omega) (by omega)).mpr y) z
        · omega
      rw [show nI a + 4 = nI (a + 4) from n_add (q := 4) (by omega), show nI b + 4 = nI (b + 4) from n_add (q := 4) (by omega), n_add (p := a + 4) (by omega), n_add (p := b + 4) (by omega)]
      refine T2_chk (n_in (by omega) (by omega)) (n_in (by omega) (by omega)) ?_
      rw [n_cl (p := a + 4 + j) (by omega), n_cl (p := b + 4 + j) (by omega)]
      exact go _ _ _ _ (Or.inr ⟨j, lt, rfl, rfl⟩) rfl rfl rfl rfl n5 o5 n7 o7 (n8.trans xa) (o8.trans xa)
end SVA
end JnS240
section JnS241
/-! Statements on both sides (reference): a step of a for's iterator. -/
/-- behind stepFor: nothing is left; or a step; or an error -/
def SFq (t w XC q : Nat) (σ1 σ2 : MS) (r1 r2 : Int32 × MS) : Prop := r1.1 = r2.1 ∧ FCt (fun i => i = 8414 + q) σ1 r1.2 ∧ FCt (fun i => i = 8414 + q) σ2 r2.2 ∧ UT r1.2 ∧ UT r2.2 ∧ ((r1.1 = 0 ∧ r1.2 = σ1 ∧ r2.2 = σ2) ∨ (r1.1 = 1 ∧ ∃ w', w + 1 ≤ w' ∧ EI t w' XC r1.2 r2.2 ∧ ItS r1.2 (q + 1)) ∨ (r1.1 = 0 ∧ EZ t t r1.2 ∧ EZ t t r2.2))
section SFO
variable {T : Nat → Nat → Int32} {FN : Nat → Nat → Prop} {lc cn : Nat → Prop} {t w XC q : Nat} {σ1 σ2 : MS}
theorem E_stepFor {g1 g2 : Nat → Prop} {l1 l2 : List Nat} {B1 h1 X1 B2 h2 X2 n qn : Nat} (hXC : XC ≤ 402000) (ht : t ≤ 176000) (hS : Sc1 T FN lc cn σ1) (hX : EIx t w XC σ1 σ2 g1 l1 B1 h1 X1 g2 l2 B2 h2 X2) (hr : h1 + (XC - 400000) + 15 ≤ B1 + 870000 ∧ h2 + (XC - 400000) + 15 ≤ B2 + 870000) (U1 : UT σ1) (U2 : UT σ2) (hq : q < 3100) (h3 : σ1.2.2 30 3 = nI (q + 1)) (hIt : ItS σ1 (q + 1)) (hn : (1 ≤ n ∧ n < LNo T % 70001)) (hqn : 1 ≤ qn ∧ qn ≤ 60) (hN : NmL T lc cn qn (T 6 n)) {L1 L2 : Nat → Int32} (d1 : L1 1 = nI n) (d2 : L2 1 = nI n) : T2 (fun k => x_stepFor k 0 L1 σ1) (fun k => x_stepFor k 0 L2 σ2) (SFq t w XC q σ1 σ2) := by
  have hI : EI t w XC σ1 σ2 := ⟨g1, l1, B1, h1, X1, g2, l2, B2, h2, X2, hX⟩
  have hX0 := hX
  obtain ⟨m1, m2, hR, i1, i2, t1, e1, e2, w1, hw, x1, x2, ⟨ty1, ty2⟩, a95, a1, a2⟩ := hX
  have al : ∀ j, AlS j → σ2.1 j = σ1.1 j := fun j h => (hR.2.2.1 j h).symm
  have a30 : ∀ j, ¬ Zn 30 j → ¬ InA σ1 30 j → σ2.2.2 30 j = σ1.2.2 30 j := fun j h hn => (hR.2.1 30 j (by unfold AlR; omega) h hn).symm
  have t2 : σ2.1 59 = nI t := (al 59 (by unfold AlS; omega)).trans t1
  have w2 : σ2.1 57 = nI w := (al 57 (by unfold AlS; omega)).trans w1
  have a3 : σ2.1 95 = nI a95 := (al 95 (by unfold AlS; omega)).trans a1
  have rt1 : RtP t σ1 30 (5314 + q) := Or.inr (Or.inl ⟨rfl, by unfold StI; rw [show (0 + 3) = 3 from rfl, h3, n_cl (p := q + 1) (by omega)]; omega⟩)
  obtain ⟨v1, v2, y1, vg1, y2, vg2, ev, bv1, bv2⟩ := hR.1 30 (5314 + q) rt1 (by unfold VwR; omega)
  obtain ⟨kd1, p1, k2, ln1, hp1, s1, kp1⟩ := hIt q (by omega)
  have kd1 : 4 ≤ kdN (σ1.2.2 28) v1 := by
    have : (szV σ1 30 (5314 + q)).2.1 = kdN (σ1.2.2 28) (σ1.2.2 30 (5314 + q)).toNatClampNeg := rfl
    rw [this, y1, n_cl (p := v1) (by omega)] at kd1; exact kd1
  have gv1 := kdN_ge m1.1 vg1 (by omega)
  have v3 : ¬ v1 < 3 := by
    obtain ⟨_, _, _, _, _, z, _⟩ := HS_at m1.1 gv1
    omega
  have ln1 : σ1.2.2 28 (v1 + 1) = nI p1 := by
    have : (szV σ1 30 (5314 + q)).2.2 = if (σ1.2.2 30 (5314 + q)).toNatClampNeg < 3 then 0 else σ1.2.2 28 ((σ1.2.2 30 (5314 + q)).toNatClampNeg + 1) := rfl
    rw [this, y1, n_cl (p := v1) (by omega), if_neg v3] at ln1; exact ln1
  have s2 : σ2.2.2 30 (8414 + q) = nI k2 := (a30 _ (by unfold Zn; omega) (InA_it h3 (by omega) (by omega))).trans s1
  have k3 : σ2.2.2 30 3 = nI (q + 1) := (a30 _ (by unfold Zn; omega) (InA_4 (by omega))).trans h3
  obtain ⟨kk, p, hO⟩ := OE_of m1.1 m2.1 gv1 vg2 ev
  have hO0 := hO
  obtain ⟨_, gv2, o3, o4, o5, o6, o7, o8, o9, o10, o11, o12, o13, o14, o15, o16, o17⟩ := hO
  have ep1 : p1 = p := (n_eq (by omega) (by omega)).mp (ln1.symm.trans o11)
  subst ep1
  have kd2 : 4 ≤ kdN (σ2.2.2 28) v2 := by rw [(EVb_sz ev).2.2]; exact kd1
  have tt : nI (q + 1) - 1 = nI q := n_sub1 (by omega)
  have e53 : (5314 : Int32) + nI q = nI (5314 + q) := n_add (p := 5314) (by omega)
  have e84 : (8414 : Int32) + nI q = nI (8414 + q) := n_add (p := 8414) (by omega)
  have fc : ∀ (σ : MS) (x : Int32), FCt (fun i => i = 8414 + q) σ (mAr σ 30 (8414 + q) x) := fun σ x => FC_w rfl
  -- the end
  have fin : ∀ (υ1 υ2 : MS), FCt (fun i => i = 8414 + q) σ1 υ1 → FCt (fun i => i = 8414 + q) σ2 υ2 → υ1.2.2 30 3 = nI (q + 1) → ItS υ1 (q + 1) → ∀ r1 r2, NWq t (w + 1) XC υ1 υ2 r1 r2 → SFq t w XC q σ1 σ2 r1 r2 := by
    intro υ1 υ2 f1 f2 u3 it r1 r2 hr
    obtain ⟨c1, c2, c3, c4, c5, c6⟩ := hr
    refine ⟨c1, FC_tr f1 (FC_fs c2), FC_tr f2 (FC_fs c3), c4, c5, Or.inr ?_⟩
    rcases c6 with ⟨z1, w', z2, z3⟩ | z
    · exact Or.inl ⟨z1, w', z2, z3, ItS_fs c2 u3 (by omega) (Nat.le_refl _) it⟩
    · exact Or.inr z
  refine T2_suc (fun k => by rw [x_stepFor]) (fun k => by rw [x_stepFor]) ?_
  refine T2_chk (by decide) (by decide) ?_
  rw [show (3 : Int32).toNatClampNeg = 3 from by decide, h3, k3, tt, e53, e84]
  refine T2_chk (n_in (by omega) (by omega)) (n_in (by omega) (by omega)) ?_
  refine T2_chk (n_in (by omega) (by omega)) (n_in (by omega) (by omega)) ?_
  rw [n_cl (p := 5314 + q) (by omega), n_cl (p := 8414 + q) (by omega), y1, y2, s1, s2, n_add1, n_add1]
  refine T2_chk (n_in (by omega) (by omega)) (n_in (by omega) (by omega)) ?_
  rw [n_cl (p := v1 + 1) (by omega), n_cl (p := v2 + 1) (by omega), o11, o12]
  refine T2_ite Iff.rfl (fun _ _ => T2_some ⟨rfl, FC_rf, FC_rf, U1, U2, Or.inl ⟨rfl, rfl, rfl⟩⟩) (fun z _ => ?_)
  have hkp : k2 < p1 := by
    by_cases e : k2 = p1
    · exact absurd (by rw [e]) z
    · omega
  have b1 : ∀ (N1 N2 : Nat → Int32), N1 1 = nI n → N2 1 = nI n → N1 2 = nI q → N2 2 = nI q → N1 3 = nI v1 → N2 3 = nI v2 → N1 4 = nI k2 → N2 4 = nI k2 → T2 (fun k => x_stepFor k 1 N1 σ1) (fun k => x_stepFor k 1 N2 σ2) (SFq t w XC q σ1 σ2) := by
    intro N1 N2 n1 o1 n2 o2' n3 o3' n4 o4'
    refine T2_suc (fun k => by rw [x_stepFor]) (fun k => by rw [x_stepFor]) ?_
    rw [n2, o2', e84]
    refine T2_chk (n_in (by omega) (by omega)) (n_in (by omega) (by omega)) ?_
    rw [n_cl (p := 8414 + q) (by omega), n4, o4', n_add1]
    show T2 (fun k => x_stepFor k 2 N1 (mAr σ1 30 (8414 + q) (nI (k2 + 1)))) (fun k => x_stepFor k 2 N2 (mAr σ2 30 (8414 + q) (nI (k2 + 1)))) _
    have bq : StB (σ1.2.2 30) 0 ∧ StB (σ2.2.2 30) 0 := by
      obtain ⟨_, _, _, _, _, _, s, _⟩ := m1.2.1
      obtain ⟨_, _, _, _, _, _, s', _⟩ := m2.2.1
      exact ⟨s, s'⟩
    have hXr := EIx_c30 (i := 8414 + q) (x := nI (k2 + 1)) (by unfold Zn; omega) hX0
    have V1 := UT_c30 (i := 8414 + q) (x := nI (k2 + 1)) (by unfold Zn; omega) bq.1 U1
    have V2 := UT_c30 (i := 8414 + q) (x := nI (k2 + 1)) (by unfold Zn; omega) bq.2 U2
    have G1 := fc σ1 (nI (k2 + 1))
    have G2 := fc σ2 (nI (k2 + 1))
    have oo : ∀ (σ : MS) j, j ≠ 8414 + q → (mAr σ 30 (8414 + q) (nI (k2 + 1))).2.2 30 j = σ.2.2 30 j := fun σ j hj => by rw [mAr_s, upd_other hj]
    have ss : (mAr σ1 30 (8414 + q) (nI (k2 + 1))).2.2 30 (8414 + q) = nI (k2 + 1) := by rw [mAr_s, upd_same]
    have r1 : ∀ a, a ≠ 30 → (mAr σ1 30 (8414 + q) (nI (k2 + 1))).2.2 a = σ1.2.2 a := fun a h => mAr_o h
    have r2 : ∀ a, a ≠ 30 → (mAr σ2 30 (8414 + q) (nI (k2 + 1))).2.2 a = σ2.2.2 a := fun a h => mAr_o h
    have p5 : (mAr σ1 30 (8414 + q) (nI (k2 + 1))).2.2 30 (5314 + q) = nI v1 := by rw [oo _ _ (by omega)]; exact y1
    have p5' : (mAr σ2 30 (8414 + q) (nI (k2 + 1))).2.2 30 (5314 + q) = nI v2 := by rw [oo _ _ (by omega)]; exact y2
    have p3 : (mAr σ1 30 (8414 + q) (nI (k2 + 1))).2.2 30 3 = nI (q + 1) := by rw [oo _ _ (by omega)]; exact h3
    have it : ItS (mAr σ1 30 (8414 + q) (nI (k2 + 1))) (q + 1) := by
      intro i hi
      have := hIt i hi
      unfold szV at this ⊢
      rw [r1 28 (by decide), oo σ1 (5314 + i) (by omega)]
      by_cases e : i = q
      · subst e
        refine ⟨this.1, p1, k2 + 1, ?_, hp1, ss, by omega⟩
        obtain ⟨_, p', _, z1, _⟩ := this
        show (if (σ1.2.2 30 (5314 + i)).toNatClampNeg < 3 then 0 else σ1.2.2 28 ((σ1.2.2 30 (5314 + i)).toNatClampNeg + 1)) = nI p1
        rw [y1, n_cl (p := v1) (by omega), if_neg v3]; exact o11
      · rw [oo σ1 (8414 + i) (by omega)]; exact this
    have hSr := Sc1_fc hS G1 (fun i hi => by unfold Ict; omega)
    have w1' : (mAr σ1 30 (8414 + q) (nI (k2 + 1))).1 57 = nI w := w1
    have w2' : (mAr σ2 30 (8414 + q) (nI (k2 + 1))).1 57 = nI w := w2
    have c59 : (mAr σ2 30 (8414 + q) (nI (k2 + 1))).1 59 = nI t := t2
    have c95 : (mAr σ2 30 (8414 + q) (nI (k2 + 1))).1 95 = nI a95 := a3
    generalize mAr σ1 30 (8414 + q) (nI (k2 + 1)) = ρ1 at *
    generalize mAr σ2 30 (8414 + q) (nI (k2 + 1)) = ρ2 at *
    obtain ⟨M1, M2, R1, I1, I2, T1, E1, E2, W1, HW, XX1, XX2, TY, b95, bb1, bb2⟩ := id hXr
    refine T2_suc (fun k => by rw [x_stepFor]) (fun k => by rw [x_stepFor]) ?_
    refine T2_ob (T2_t (s_worked w1' (n := 1) (by omega) rfl) (s_worked w2' (n := 1) (by omega) rfl)) (fun r1' r2' hr' => ?_)
    obtain ⟨⟨_, Wk1⟩, _, Wk2⟩ := hr'
    have z1 := WkO_er E1 Wk1
    have z2 := WkO_er E2 Wk2
    by_cases le : w + 1 ≤ 60000
    case neg =>
      have q1 : r1'.2 = mEr (mSc ρ1 57 (nI (w + 1))) (nI 11) := by
        rcases Wk1 with y | y
        · exact absurd y.1 le
        · exact y.2
      have q2 : r2'.2 = mEr (mSc ρ2 57 (nI (w + 1))) (nI 11) := by
        rcases Wk2 with y | y
        · exact absurd y.1 le
        · exact y.2
      have Z1 : EZ t t r1'.2 := by
        rw [q1]
        exact EZ_er (w := w + 1) (MI_c M1 rfl rfl rfl rfl rfl) (by omega) (by exact T1) E1 rfl (by omega) ⟨b95, bb1, bb2⟩ (by decide) (by decide) (Nat.le_refl _) (Nat.le_refl _)
      have Z2 : EZ t t r2'.2 := by
        rw [q2]
        exact EZ_er (w := w + 1) (MI_c M2 rfl rfl rfl rfl rfl) (by omega) (by exact c59) E2 rfl (by omega) ⟨a95, c95, a2⟩ (by decide) (by decide) (Nat.le_refl _) (Nat.le_refl _)
      have F1 : FE ρ1 r1'.2 := FE_wk Wk1
      have F2 : FE ρ2 r2'.2 := FE_wk Wk2
      refine T2_ite ⟨fun z => absurd z (EZ_le Z1), fun z => absurd z (EZ_le Z2)⟩ (fun z _ => absurd z (EZ_le Z1)) (fun _ _ => ?_)
      exact T2_some ⟨rfl, FC_tr G1 (FC_fe F1), FC_tr G2 (FC_fe F2), UT_fe F1 V1, UT_fe F2 V2, Or.inr (Or.inr ⟨rfl, Z1, Z2⟩)⟩
    have q1 : r1'.2 = mSc ρ1 57 (nI (w + 1)) := by
      rcases Wk1 with y | y
      · exact y.2
      · omega
    have q2 : r2'.2 = mSc ρ2 57 (nI (w + 1)) := by
      rcases Wk2 with y | y
      · exact y.2
      · omega
    have F1 : FE ρ1 (mSc ρ1 57 (nI (w + 1))) := FE_sc (Or.inr (Or.inl rfl))
    have F2 : FE ρ2 (mSc ρ2 57 (nI (w + 1))) := FE_sc (Or.inr (Or.inl rfl))
    have hX2 : EIx t (w + 1) XC (mSc ρ1 57 (nI (w + 1))) (mSc ρ2 57 (nI (w + 1))) g1 l1 B1 h1 X1 g2 l2 B2 h2 X2 := by
      refine ⟨MI_c M1 rfl rfl rfl rfl rfl, MI_c M2 rfl rfl rfl rfl rfl, RA_c R1 rfl rfl rfl rfl rfl rfl rfl rfl (fun j hj => ?_) R1.2.2.2, IT_c rfl rfl rfl rfl I1, IT_c rfl rfl rfl rfl I2, T1, E1, E2, rfl, ⟨le, HW.2⟩, by omega, by omega, TY, b95, bb1, bb2⟩
      show upd ρ1.1 57 (nI (w + 1)) j = upd ρ2.1 57 (nI (w + 1)) j
      by_cases c : j = 57
      · rw [c, upd_same, upd_same]
      · rw [upd_other c, upd_other c]; exact R1.2.2.1 j hj
    rw [q1, q2]
    have c28 : (mSc ρ1 57 (nI (w + 1))).2.2 28 = σ1.2.2 28 := r1 28 (by decide)
    have d28 : (mSc ρ2 57 (nI (w + 1))).2.2 28 = σ2.2.2 28 := r2 28 (by decide)
    have u5 : (mSc ρ1 57 (nI (w + 1))).2.2 30 (5314 + q) = nI v1 := p5
    have u5' : (mSc ρ2 57 (nI (w + 1))).2.2 30 (5314 + q) = nI v2 := p5'
    have u3 : (mSc ρ1 57 (nI (w + 1))).2.2 30 3 = nI (q + 1) := p3
    have itu := ItS_fs (FS_fe F1) p3 (by omega) (Nat.le_refl _) it
    have hSu := Sc1_fs hSr (FS_fe F1)
    have Y1 := UT_fe F1 V1
    have Y2 := UT_fe F2 V2
    have C1 : FCt (fun i => i = 8414 + q) σ1 (mSc ρ1 57 (nI (w + 1))) := FC_tr G1 (FC_fe F1)
    have C2 : FCt (fun i => i = 8414 + q) σ2 (mSc ρ2 57 (nI (w + 1))) := FC_tr G2 (FC_fe F2)
    have ee1 : (mSc ρ1 57 (nI (w + 1))).1 56 = 0 := E1
    have ee2 : (mSc ρ2 57 (nI (w + 1))).1 56 = 0 := E2
    generalize mSc ρ1 57 (nI (w + 1)) = υ1 at *
    generalize mSc ρ2 57 (nI (w + 1)) = υ2 at *
    have hIu : EI t (w + 1) XC υ1 υ2 := ⟨g1, l1, B1, h1, X1, g2, l2, B2, h2, X2, hX2⟩
    have hS2u := Sc1_ei hSu hIu
    rw [ee1, ee2]
    refine T2_ite Iff.rfl (fun _ _ => ?_) (fun z _ => absurd (by decide) z)
    refine T2_suc (fun k => by rw [x_stepFor]) (fun k => by rw [x_stepFor]) ?_
    rw [n3, o3', n4, o4', n1, o1]
    -- error 1
    have nine : ∀ (M1 M2 : Nat → Int32) (π1 π2 : MS), FSt υ1 π1 → FSt υ2 π2 → UT π1 → UT π2 → EI t (w + 1) XC π1 π2 → T2 (fun k => x_stepFor k 9 M1 π1) (fun k => x_stepFor k 9 M2 π2) (NWq t (w + 1) XC υ1 υ2) := by
      intro M1 M2 π1 π2 f1 f2 W1 W2 hJ
      refine T2_suc (fun k => by rw [x_stepFor]) (fun k => by rw [x_stepFor]) ?_
      refine T2_ob (T2_t (s_fail _ _) (s_fail _ _)) (fun r1 r2 hr => ?_)
      rw [hr.1, hr.2]
      obtain ⟨z1, z2⟩ := E_er (a := t) (b := t) (e := 1) (by omega) hJ (by decide) (by decide) (Nat.le_refl _) (Nat.le_refl _)
      exact T2_some ⟨rfl, FS_tr f1 (FS_fe FE_er), FS_tr f2 (FS_fe FE_er), UT_fe FE_er W1, UT_fe FE_er W2, Or.inr ⟨rfl, z1, z2⟩⟩
    -- behind a single write
    have single : ∀ (s1 s2 : Int32 × MS) (π1 π2 : MS) (M1 M2 K1 K2 : Nat → Int32), FSt υ1 π1 → FSt υ2 π2 → SQ t t (w + 1) XC π1 π2 s1.2 s2.2 → T2 (fun k => if s1.2.1 56 = 0 then x_stepFor k 5 (upd M1 100 1) s1.2 else x_stepFor k 4 K1 s1.2) (fun k => if s2.2.1 56 = 0 then x_stepFor k 5 (upd M2 100 1) s2.2 else x_stepFor k 4 K2 s2.2) (NWq t (w + 1) XC υ1 υ2) := by
      intro s1 s2 π1 π2 M1 M2 K1 K2 f1 f2 hs
      obtain ⟨c1, c2, c3, c4, c5⟩ := hs
      rcases c5 with ⟨w', hw', hJ⟩ | ⟨z1, z2⟩
      · obtain ⟨e1, e2⟩ := EI_e hJ
        rw [e1, e2]
        refine T2_ite Iff.rfl (fun _ _ => ?_) (fun z _ => absurd rfl z)
        refine T2_suc (fun k => by rw [x_stepFor]) (fun k => by rw [x_stepFor]) ?_
        exact T2_chk (Or.inr rfl) (Or.inr rfl) (T2_some ⟨rfl, FS_tr f1 c1, FS_tr f2 c2, c3, c4, Or.inl ⟨rfl, w', hw', hJ⟩⟩)
      · refine T2_ite ⟨fun z => absurd z (EZ_e z1), fun z => absurd z (EZ_e z2)⟩ (fun z _ => absurd z (EZ_e z1)) (fun _ _ => ?_)
        refine T2_suc (fun k => by rw [x_stepFor]) (fun k => by rw [x_stepFor]) ?_
        refine T2_suc (fun k => by rw [x_stepFor]) (fun k => by rw [x_stepFor]) ?_
        exact T2_chk (Or.inl rfl) (Or.inl rfl) (T2_some ⟨rfl, FS_tr f1 c1, FS_tr f2 c2, c3, c4, Or.inr ⟨rfl, z1, z2⟩⟩)
    obtain ⟨qm, rfl⟩ : ∃ qm, qn = qm + 1 := ⟨qn - 1, by omega⟩
    have hN0 := hN
    obtain ⟨na, ns, xna, hna, hNr⟩ := hN
    -- names are counted
    have six : ∀ (π1 π2 : MS) (M1 M2 : Nat → Int32) (va vb : Nat), Sc1 T FN lc cn π1 → Sc1 T FN lc cn π2 → M1 1 = nI n → M2 1 = nI n → M1 5 = nI va → M2 5 = nI vb → (∀ K1 K2 : Nat → Int32, K1 1 = nI n → K2 1 = nI n → K1 5 = nI va → K2 5 = nI vb → K1 6 = nI (qm + 1) → K2 6 = nI (qm + 1) → T2 (fun k => x_stepFor k 8 K1 π1) (fun k => x_stepFor k 8 K2 π2) (NWq t (w + 1) XC υ1 υ2)) → T2 (fun k => x_stepFor k 6 M1 π1) (fun k => x_stepFor k 6 M2 π2) (NWq t (w + 1) XC υ1 υ2) := by
      intro π1 π2 M1 M2 va vb S1 S2 c1 c2 c5 c5' hQ
      have cnt : ∀ (q j : Nat) (x : Int32) (K1 K2 : Nat → Int32), q + j = qm + 1 → NmL T lc cn q x → K1 1 = nI n → K2 1 = nI n → K1 5 = nI va → K2 5 = nI vb → K1 6 = nI j → K2 6 = nI j → K1 7 = x → K2 7 = x → T2 (fun k => x_stepFor k 7 K1 π1) (fun k => x_stepFor k 7 K2 π2) (NWq t (w + 1) XC υ1 υ2) := by
        intro q
        induction q with
        | zero =>
          intro j x K1 K2 hj hL b1 b2 b3 b4 b5 b6 b7 b8
          have hL : x = -1 := hL
          refine T2_suc (fun k => by rw [x_stepFor]) (fun k => by rw [x_stepFor]) ?_
          rw [b7, b8, hL]
          refine T2_ite Iff.rfl (fun _ _ => ?_) (fun z _ => absurd rfl z)
          exact hQ K1 K2 b1 b2 b3 b4 (by rw [b5]; congr 1; omega) (by rw [b6]; congr 1; omega)
        | succ q ih =>
          intro j x K1 K2 hj hL b1 b2 b3 b4 b5 b6 b7 b8
          obtain ⟨a, s, xa, hn', hL⟩ := hL
          have ha := hn'.1
          refine T2_suc (fun k => by rw [x_stepFor]) (fun k => by rw [x_stepFor]) ?_
          rw [b7, b8, b5, b6, xa]
          refine T2_ite Iff.rfl (fun z _ => absurd z (ne_m1 ha)) (fun _ _ => ?_)
          refine T2_chk (n_in (by omega) (by omega)) (n_in (by omega) (by omega)) ?_
          rw [n_cl (p := a) (by omega), S1.1.1.1 9 _ (by omega) (by omega) (by omega), S2.1.1.1 9 _ (by omega) (by omega) (by omega), n_add1]
          exact ih (j + 1) (T 9 a) _ _ (by omega) hL b1 b2 b3 b4 rfl rfl rfl rfl
      refine T2_suc (fun k => by rw [x_stepFor]) (fun k => by rw [x_stepFor]) ?_
      rw [c1, c2]
      refine T2_chk (n_in (by omega) (by omega)) (n_in (by omega) (by omega)) ?_
      rw [n_cl (p := n) (by omega), S1.1.1.1 6 _ (by omega) (by omega) (by omega), S2.1.1.1 6 _ (by omega) (by omega) (by omega)]
      exact cnt (qm + 1) 0 (T 6 n) _ _ (by omega) hN0 c1 c2 c5 c5' rfl rfl rfl rfl
    by_cases k5 : 5 ≤ kk
    · refine T2_ob (T2_t (s_memY (σ := υ1) (n := p1) (kk := kk) (j := k2) o13 (by rw [c28]; exact o9) k5 o5.2 hkp rfl rfl) (s_memY (σ := υ2) (n := p1) (kk := kk) (j := k2) o14 (by rw [d28]; exact o10) k5 o5.2 hkp rfl rfl)) (fun a b hab => ?_)
      rw [hab.1, hab.2]
      have rtu : RtP t υ1 30 (5314 + q) := Or.inr (Or.inl ⟨rfl, by unfold StI; rw [show (0 + 3) = 3 from rfl, u3, n_cl (p := q + 1) (by omega)]; omega⟩)
      have kdu : 5 ≤ kdN (υ1.2.2 28) v1 := by rw [c28, o7]; exact k5
      have lnu : υ1.2.2 28 (v1 + 1) = nI p1 := by rw [c28]; exact ln1
      obtain ⟨va, vb, xa1, xa2, xa3, xa4, xa5, xa6, xa7, xa8, xa9⟩ := Rt_val hX2 rtu (by unfold VwR; omega) u5 u5' bv1 bv2 kdu lnu hp1 hkp
      have bva := HS_vb hX2.1.1 xa3
      have bvb := HS_vb hX2.2.1.1 xa4
      refine T2_chk (n_in (by omega) (by omega)) (n_in (by omega) (by omega)) ?_
      rw [n_cl (p := n) (by omega), hSu.1.1.1 5 _ (by omega) (by omega) (by omega), hS2u.1.1.1 5 _ (by omega) (by omega) (by omega)]
      refine T2_ite Iff.rfl (fun _ _ => ?_) (fun _ _ => ?_)
      · refine T2_chk (n_in3 (by omega) (by omega)) (n_in3 (by omega) (by omega)) ?_
        rw [hSu.1.1.1 6 _ (by omega) (by omega) (by omega), hS2u.1.1.1 6 _ (by omega) (by omega) (by omega), xna]
        refine T2_ob (E_assX (x := υ1.2.2 28 (v1 + 4 + k2)) (y := υ2.2.2 28 (v2 + 4 + k2)) hXC hSu hIu Y1 Y2 hna (fun g1 l1 B1 h1 X1 g2 l2 B2 h2 X2 hE => ?_) rfl rfl rfl rfl) (fun s1 s2 hs => T2_mono (single s1 s2 υ1 υ2 _ _ _ _ FS_rf FS_rf hs.1) (fin υ1 υ2 C1 C2 u3 itu))
        obtain ⟨a', b', e1', e2', _, _, _, e6', e7', e8', _⟩ := Rt_val hE rtu (by unfold VwR; omega) u5 u5' bv1 bv2 kdu lnu hp1 hkp
        rw [e1', e2']
        exact ⟨e6', ⟨a', rfl, e7'⟩, ⟨b', rfl, e8'⟩⟩
      · rw [xa1, xa2]
        refine T2_mono (six υ1 υ2 _ _ va vb hSu hS2u n1 o1 rfl rfl (fun K1 K2 b1 b2 b3 b4 b5 b6 => ?_)) (fin υ1 υ2 C1 C2 u3 itu)
        refine T2_suc (fun k => by rw [x_stepFor]) (fun k => by rw [x_stepFor]) ?_
        rw [b3, b4, b5, b6]
        refine T2_ob (T2_t (s_kind hX2.1.1 xa3 rfl) (s_kind hX2.2.1.1 xa4 rfl)) (fun c d hcd => ?_)
        rw [hcd.1, hcd.2, (EVb_sz xa5).2.2]
        have k6 := kdN_6 hX2.1.1 xa3
        refine T2_ite Iff.rfl (fun z _ => ?_) (fun _ _ => nine _ _ υ1 υ2 FS_rf FS_rf Y1 Y2 hIu)
        have z5 : kdN (υ1.2.2 28) va = 5 := (n_eq (q := 5) (by omega) (by decide)).mp z
        obtain ⟨qa, qa1, qa2, qa3, qa4, qa5, _⟩ := xa9 z5
        rw [n_add1, n_add1]
        refine T2_chk (n_in (by omega) (by omega)) (n_in (by omega) (by omega)) ?_
        rw [n_cl (p := va + 1) (by omega), n_cl (p := vb + 1) (by omega)]
        show T2 (fun k => if υ1.2.2 28 (va + 1) ≤ nI (qm + 1) then x_stepFor k 10 K1 υ1 else x_stepFor k 9 K1 υ1) (fun k => if υ2.2.2 28 (vb + 1) ≤ nI (qm + 1) then x_stepFor k 10 K2 υ2 else x_stepFor k 9 K2 υ2) _
        rw [qa1, qa2]
        refine T2_ite Iff.rfl (fun _ _ => ?_) (fun _ _ => nine _ _ υ1 υ2 FS_rf FS_rf Y1 Y2 hIu)
        refine T2_suc (fun k => by rw [x_stepFor]) (fun k => by rw [x_stepFor]) ?_
        rw [b1, b2]
        refine T2_chk (n_in (by omega) (by omega)) (n_in (by omega) (by omega)) ?_
        rw [n_cl (p := n) (by omega), hSu.1.1.1 6 _ (by omega) (by omega) (by omega), hS2u.1.1.1 6 _ (by omega) (by omega) (by omega)]
        exact sf_11 (i0 := 5314 + q) (k := k2) (p := p1) (a := va) (b := vb) (qa := qa) (v1 := v1) (v2 := v2) hXC (by omega) bv1 bv2 ⟨qa4, qa5, qa3⟩ hp1 hkp (qm + 1) 0 (T 6 n) _ _ υ1 υ2 (w + 1) (Nat.le_refl _) (by omega) hN0 b3 b4 rfl rfl rfl rfl hSu FS_rf FS_rf Y1 Y2 hIu rtu u5 u5' kdu lnu xa1 xa2 z5 qa1 qa2
    · have k4 : kk = 4 := by omega
      subst k4
      have q59 : υ1.1 59 = nI t := hX2.2.2.2.2.2.1
      have u59 : υ2.1 59 = nI t := (hX2.2.2.1.2.2.1 59 (by unfold AlS; omega)).symm.trans q59
      have P1 : VP g1 l1 B1 h1 t υ1 := ⟨hX2.1.1, q59, by omega, ⟨0, ee1, by decide⟩⟩
      have P2 : VP g2 l2 B2 h2 t υ2 := ⟨hX2.2.1.1, u59, by omega, ⟨0, ee2, by decide⟩⟩
      have hO2 : OE g1 g2 (υ1.2.2 28) (υ2.2.2 28) v1 v2 4 p1 := by rw [c28, d28]; exact hO0
      refine T2_ob (T2_of (Tm_and (s_memberAt (v := v1) (n := p1) (i := k2) P1 gv1 (by rw [c28]; exact kd1) (by rw [c28]; exact ln1) hkp o6 rfl rfl) (s_memX (v := v1) (n := p1) (j := k2) hX2.1.1 (by omega) ee1 o13 (by rw [c28]; exact o9) hkp rfl rfl)) (Tm_and (s_memberAt (v := v2) (n := p1) (i := k2) P2 gv2 (by rw [d28]; exact kd2) (by rw [d28]; exact o12) hkp o6 rfl rfl) (s_memX (v := v2) (n := p1) (j := k2) hX2.2.1.1 (by omega) ee2 o14 (by rw [d28]; exact o10) hkp rfl rfl)) (fun n' => Pm_wl (fun k => wl_memberAt k _ _ _) (fun k => wl_memberAt k _ _ _) (k_memberAt hX2.1.1 hX2.2.1.1 ee1 ee2 (by omega) (by omega) hO2 (by omega) hkp rfl rfl rfl rfl))) (fun u1 u2 hu => ?_)
      obtain ⟨⟨kq, wl1, wl2⟩, ⟨va, xa1, xa2, xa3, xa4⟩, ⟨vb, xb1, xb2, xb3, xb4⟩⟩ := hu
      obtain ⟨gC, lC, hC', gD, lD, hD', p1', p2', p3', p4', p5'', p6', p7', p8', p9', p10'⟩ := KQ_gr (by omega) hX2.1.1 hX2.2.1.1 va vb kq xa2
      obtain ⟨q1', q2', q3'⟩ := RA_gr hX2.1 hX2.2.1 hX2.2.2.1 p1' p2' p3' p4' (p5''.trans p6'.symm) (by rw [wl1, wl2]; exact hX2.2.2.1.2.2.2)
      have eo1 := (MI_gr hX2.1 p1' p3').2
      have eo2 := (MI_gr hX2.2.1 p2' p4').2
      have H1 : FE υ1 u1.2 := FE_eo hX2.1.2.1 eo1
      have H2 : FE υ2 u2.2 := FE_eo hX2.2.1.2.1 eo2
      obtain ⟨_, _, _, i1', i2', _, _, _, w57, hw', x1', x2', ⟨ty1', ty2'⟩, c95', b95', b95''⟩ := id hX2
      have hX3 : EIx t (w + 1) XC u1.2 u2.2 gC lC B1 hC' X1 gD lD B2 hD' X2 := ⟨q1', q2', q3', IT_eo hX2.1.2.1 hX2.1.1 (Or.inr ⟨B1, hC', p1'.1⟩) eo1 i1', IT_eo hX2.2.1.2.1 hX2.2.1.1 (Or.inr ⟨B2, hD', p2'.1⟩) eo2 i2', p5'', xa2, xb2, (p3'.1 57 (by decide)).trans w57, ⟨hw'.1, by omega, by omega⟩, x1', x2', ⟨by rw [H1.2.2.1]; exact ty1', by rw [H1.2.2.1, H2.2.2.1]; exact ty2'⟩, c95', (p3'.1 95 (by decide)).trans b95', b95''⟩
      have hI3 : EI t (w + 1) XC u1.2 u2.2 := ⟨_, _, _, _, _, _, _, _, _, _, hX3⟩
      have bh1 := HS_b m1.1
      have bh2 := HS_b m2.1
      rw [xa1, xb1] at p8'
      have gm1 : gC h1 := by
        obtain ⟨z1, z2, c1, c2, c3, c4, c5, c6, c7⟩ := p8'
        have ea : h1 = z1 := (n_eq (by omega) (by omega)).mp c1
        rw [ea]
        obtain ⟨_, _, _, _, _, hvb1, hvb2⟩ := HS_at m1.1 gv1
        exact c2.resolve_left (by omega)
      have gm2 : gD h2 := by
        obtain ⟨z1, z2, c1, c2, c3, c4, c5, c6, c7⟩ := p8'
        have ea : h2 = z2 := (n_eq (by omega) (by omega)).mp c3
        rw [ea]
        obtain ⟨_, _, _, _, _, hvb1, hvb2⟩ := HS_at m2.1 gv2
        exact c4.resolve_left (by omega)
      have S1' := Sc1_fs hSu (FS_fe H1)
      have S2' := Sc1_fs hS2u (FS_fe H2)
      rw [xa1, xb1]
      refine T2_chk (n_in (by omega) (by omega)) (n_in (by omega) (by omega)) ?_
      rw [n_cl (p := n) (by omega), S1'.1.1.1 5 _ (by omega) (by omega) (by omega), S2'.1.1.1 5 _ (by omega) (by omega) (by omega)]
      refine T2_ite Iff.rfl (fun _ _ => ?_) (fun _ _ => ?_)
      · refine T2_chk (n_in3 (by omega) (by omega)) (n_in3 (by omega) (by omega)) ?_
        rw [S1'.1.1.1 6 _ (by omega) (by omega) (by omega), S2'.1.1.1 6 _ (by omega) (by omega) (by omega), xna]
        exact T2_ob (E_asgL (m1 := h1) (m2 := h2) hXC S1' hX3 (UT_fe H1 Y1) (UT_fe H2 Y2) hna (by omega) (by omega) gm1 gm2 p8' xa3 xb3 xa4 xb4 rfl rfl rfl rfl) (fun s1 s2 hs => T2_mono (single s1 s2 u1.2 u2.2 _ _ _ _ (FS_fe H1) (FS_fe H2) hs) (fin υ1 υ2 C1 C2 u3 itu))
      · refine T2_mono (six u1.2 u2.2 _ _ h1 h2 S1' S2' n1 o1 rfl rfl (fun K1 K2 b1 b2 b3 b4 b5 b6 => ?_)) (fin υ1 υ2 C1 C2 u3 itu)
        refine T2_suc (fun k => by rw [x_stepFor]) (fun k => by rw [x_stepFor]) ?_
        rw [b3, b4, b5, b6]
        refine T2_ob (T2_t (s_kind hX3.1.1 (Or.inr gm1) rfl) (s_kind hX3.2.1.1 (Or.inr gm2) rfl)) (fun c d hcd => ?_)
        have kd : ∀ {g : Nat → Prop} {l : List Nat} {B h m : Nat} {σ : MS}, HS g l B h σ → g m → σ.2.2 28 m = nI 4 → kdN (σ.2.2 28) m = 4 := by
          intro g l B h m σ hS gm e
          obtain ⟨n', v1, v2, v3, v4, v5, v6, v7⟩ := ob_at hS gm
          have k6 := kdN_6 hS (Or.inr gm)
          exact (n_eq (by omega) (by decide)).mp (v5.symm.trans e)
        rw [hcd.1, hcd.2, kd hX3.1.1 gm1 xa3, kd hX3.2.1.1 gm2 xb3]
        exact T2_ite (c1 := nI 4 = 5) (c2 := nI 4 = 5) Iff.rfl (fun z _ => absurd z (by decide)) (fun _ _ => nine _ _ u1.2 u2.2 (FS_fe H1) (FS_fe H2) (UT_fe H1 Y1) (UT_fe H2 Y2) hI3)
  exact b1 _ _ d1 d2 rfl rfl rfl rfl rfl rfl
end SFO
end JnS241
section JnS242
/-! Statements on both sides (reference): the next turn of a for. -/
/-- numbers of the state that a for's turn changes -/
def Inx (base i : Nat) : Prop := i = 3 ∨ 8414 + base ≤ i
/-- behind nextTurn: a turn; or no more; or an error -/
def NTq (t w XC base kk : Nat) (σ1 σ2 : MS) (r1 r2 : Int32 × MS) : Prop := r1.1 = r2.1 ∧ FCt (Inx base) σ1 r1.2 ∧ FCt (Inx base) σ2 r2.2 ∧ UT r1.2 ∧ UT r2.2 ∧ ((r1.1 = 1 ∧ ∃ w', w + 1 ≤ w' ∧ EI t w' XC r1.2 r2.2 ∧ r1.2.2.2 30 3 = nI (base + kk) ∧ ItS r1.2 (base + kk)) ∨ (r1.1 = 0 ∧ ∃ w', w ≤ w' ∧ EI t w' XC r1.2 r2.2 ∧ r1.2.2.2 30 3 = nI base ∧ ItS r1.2 base) ∨ (r1.1 = 0 ∧ EZ t 179300 r1.2 ∧ EZ t 179300 r2.2))
section NXT
variable {T : Nat → Nat → Int32} {FN : Nat → Nat → Prop} {lc cn : Nat → Prop} {t w XC base kk m : Nat} {σ1 σ2 : MS}
theorem Inx_ct {i : Nat} (h : Inx base i) : Ict i := by unfold Inx at h; unfold Ict; omega
theorem ItL_9 : ∀ {k : Nat} {x : Int32}, ItL T FN lc cn k x → (x = -1 ↔ k = 0) := by
  intro k x h
  cases k with
  | zero => exact ⟨fun _ => rfl, fun _ => h⟩
  | succ k =>
    obtain ⟨e, xe, he, _⟩ := h
    refine ⟨fun z => ?_, fun z => by omega⟩
    rw [xe] at z
    exact absurd z (ne_m1 he)
theorem E_nextTurn0 {ms : Nat → Nat} (hm1 : ∀ a b, a ≤ b → ms b ≤ ms a) (hm2 : ∀ a, a + 1 ≤ 60000 → ms (a + 1) + 204 ≤ ms a) {R XC' : Nat} (hR : XC - 400000 + 15 ≤ R) (hR2 : R ≤ 79900) (hXC' : XC ≤ XC' ∧ XC' ≤ 402000 ∧ R ≤ XC' - 400000 + 10 ∧ XC' - 400000 + 10 ≤ 79900) (hXC : XC ≤ 401000) (ht : t ≤ w + 17000) (hm : (1 ≤ m ∧ m < LNo T % 70001)) (hL : ItL T FN lc cn kk (T 5 m)) (hkk : 1 ≤ kk ∧ kk ≤ 60) (hb : base + kk ≤ 3100) (hS : Sc1 T FN lc cn σ1) (hS2 : Sc1 T FN lc cn σ2) : ∀ (M c w' : Nat) (go : Int32) (τ1 τ2 : MS) (N1 N2 : Nat → Int32), ms w' + 2 * c + (if go = 0 then 0 else 3) ≤ M → w ≤ w' → EI t w' XC τ1 τ2 → UT τ1 → UT τ2 → FCt (Inx base) σ1 τ1 → FCt (Inx base) σ2 τ2 → τ1.2.2 30 3 = nI (base + c) → ItS τ1 (base + c) → c ≤ kk → (¬ go = 0 → c < kk) → N1 1 = nI m → N2 1 = nI m → N1 2 = nI base → N2 2 = nI base → N1 4 = go → N2 4 = go → T2 (fun k => x_nextTurn k 1 N1 τ1) (fun k => x_nextTurn k 1 N2 τ2) (NTq t w XC base kk σ1 σ2) := by
  intro M
  induction M using Nat.strongRecOn with
  | ind M ih =>
  intro c w' go τ1 τ2 N1 N2 hM hw hJ V1 V2 f1 f2 h3 hIt hc hgo n1 o1 n2 o2 n4 o4
  have w6 := EI_w hJ
  obtain ⟨e1, e2⟩ := EI_e hJ
  have zend : ∀ (π1 π2 : MS) (K1 K2 : Nat → Int32) (b : Nat), b ≤ 179300 → FCt (Inx base) σ1 π1 → FCt (Inx base) σ2 π2 → UT π1 → UT π2 → EZ t b π1 → EZ t b π2 → T2 (fun k => x_nextTurn k 1 K1 π1) (fun k => x_nextTurn k 1 K2 π2) (NTq t w XC base kk σ1 σ2) := by
    intro π1 π2 K1 K2 b hb g1 g2 W1 W2 z1 z2
    refine T2_suc (fun k => by rw [x_nextTurn]) (fun k => by rw [x_nextTurn]) ?_
    refine T2_ite ⟨fun z => absurd z (EZ_e z1), fun z => absurd z (EZ_e z2)⟩ (fun z _ => absurd z (EZ_e z1)) (fun _ _ => ?_)
    refine T2_suc (fun k => by rw [x_nextTurn]) (fun k => by rw [x_nextTurn]) ?_
    exact T2_some ⟨rfl, g1, g2, W1, W2, Or.inr (Or.inr ⟨rfl, EZ_mo z1 (Nat.le_refl _) hb, EZ_mo z2 (Nat.le_refl _) hb⟩)⟩
  -- a step of the last iterator that is open
  have three : ∀ (d w2 : Nat) (π1 π2 : MS) (K1 K2 : Nat → Int32), d < kk → w' ≤ w2 → (d + 1 ≤ c ∨ ¬ go = 0 ∧ d ≤ c) → FCt (Inx base) σ1 π1 → FCt (Inx base) σ2 π2 → UT π1 → UT π2 → EI t w2 XC π1 π2 → Rm R π1 → Rm R π2 → π1.2.2 30 3 = nI (base + d + 1) → ItS π1 (base + d + 1) → K1 1 = nI m → K2 1 = nI m → K1 2 = nI base → K2 2 = nI base → K1 5 = nI (d + 1) → K2 5 = nI (d + 1) → T2 (fun k => x_nextTurn k 3 K1 π1) (fun k => x_nextTurn k 3 K2 π2) (NTq t w XC base kk σ1 σ2) := by
    intro d w2 π1 π2 K1 K2 hd hw2 hdc g1 g2 W1 W2 hK rm1 rm2 p3 pit k1 l1 k2 l2 k5 l5
    have S1 := Sc1_fc hS g1 (fun i => Inx_ct)
    have S2 := Sc1_fc hS2 g2 (fun i => Inx_ct)
    refine T2_suc (fun k => by rw [x_nextTurn]) (fun k => by rw [x_nextTurn]) ?_
    rw [k1, l1, k5, l5, n_sub1 (by omega)]
    refine T2_ob (T2_t (s_iterOf (x := 0) S1.1.1.1 hm hL hd rfl rfl (by omega)) (s_iterOf (x := 0) S2.1.1.1 hm hL hd rfl rfl (by omega))) (fun a b hab => ?_)
    obtain ⟨⟨a2, an, e', ae, he, ⟨qn, q1, q2, hN⟩, _, hLe⟩, b2, bn, _⟩ := hab
    have be : b.1 = nI e' := bn.trans (an.symm.trans ae)
    rw [a2, b2, ae, be]
    have hK0 := hK
    obtain ⟨gA, lA, BA, hA, XA, gB, lB, BB, hB, XB, hX⟩ := hK0
    have rA := Rm_h hX.1.1 rm1
    have rB := Rm_h hX.2.1.1 rm2
    refine T2_ob (E_stepFor (q := base + d) (n := e') (qn := qn) (by omega) (by omega) S1 hX ⟨by omega, by omega⟩ W1 W2 (by omega) p3 pit he ⟨q1, q2⟩ hN rfl rfl) (fun s1 s2 hs => ?_)
    obtain ⟨c1, c2, c3, c4, c5, c6⟩ := hs
    have g1' : FCt (Inx base) σ1 s1.2 := FC_tr g1 (FC_mo (fun i hi => Or.inr (by omega)) c2)
    have g2' : FCt (Inx base) σ2 s2.2 := FC_tr g2 (FC_mo (fun i hi => Or.inr (by omega)) c3)
    have S1' := Sc1_fc hS g1' (fun i => Inx_ct)
    have S2' := Sc1_fc hS2 g2' (fun i => Inx_ct)
    -- block 4
    have four0 : ∀ (d' w3 : Nat) (ν1 ν2 : MS) (Q1 Q2 : Nat → Int32), d' ≤ c → ms w3 + 2 * d' < M → w ≤ w3 → d' ≤ kk → EI t w3 XC ν1 ν2 → UT ν1 → UT ν2 → FCt (Inx base) σ1 ν1 → FCt (Inx base) σ2 ν2 → ν1.2.2 30 3 = nI (base + d') → ItS ν1 (base + d') → Q1 1 = nI m → Q2 1 = nI m → Q1 2 = nI base → Q2 2 = nI base → Q1 4 = 0 → Q2 4 = 0 → T2 (fun k => x_nextTurn k 4 Q1 ν1) (fun k => x_nextTurn k 4 Q2 ν2) (NTq t w XC base kk σ1 σ2) := by
      intro d' w3 ν1 ν2 Q1 Q2 hd' hM' hw3 hk' hK' X1 X2 y1 y2 y3 y4 z1 z2 z3 z4 z5 z6
      refine T2_suc (fun k => by rw [x_nextTurn]) (fun k => by rw [x_nextTurn]) ?_
      rw [z5, z6]
      refine T2_ite Iff.rfl (fun _ _ => ?_) (fun z _ => absurd rfl z)
      refine T2_suc (fun k => by rw [x_nextTurn]) (fun k => by rw [x_nextTurn]) ?_
      exact ih (ms w3 + 2 * d') hM' d' w3 0 ν1 ν2 Q1 Q2 (by rw [if_pos rfl]; exact Nat.le_refl _) hw3 hK' X1 X2 y1 y2 y3 y4 hk' (fun z => absurd rfl z) z1 z2 z3 z4 z5 z6
    have hgoM : (if go = 0 then 0 else 3) ≤ 3 := by split <;> omega
    rw [← c1]
    rcases c6 with ⟨z0, z1, z2⟩ | ⟨z0, w3, hw3, hK3, it3⟩ | ⟨z0, z1, z2⟩
    · rw [z1, z2, z0] at *
      obtain ⟨x1, x2⟩ := EI_e hK
      rw [x1, x2]
      refine T2_ite Iff.rfl (fun _ _ => ?_) (fun z _ => absurd rfl z)
      refine T2_ite Iff.rfl (fun _ _ => ?_) (fun z _ => absurd rfl z)
      refine T2_ob (E_dropIter (q := base + d) hK W1 W2 (by omega) p3) (fun y1 y2 hy => ?_)
      obtain ⟨u1, u2, u3, u4, u5, u6, u7⟩ := hy
      refine four0 d w2 y1.2 y2.2 _ _ (by omega) ?_ (by omega) (by omega) u1 u2 u3 (FC_tr g1 (FC_mo (fun i hi => Or.inl hi) u4)) (FC_tr g2 (FC_mo (fun i hi => Or.inl hi) u5)) u6 (u7 _ (Nat.le_refl _) (ItS_mo pit (by omega))) k1 l1 k2 l2 rfl rfl
      have u3 := hm1 w' w2 hw2
      rcases hdc with y | ⟨y, y'⟩
      · omega
      · rw [if_neg y] at hM; omega
    · rw [z0]
      refine T2_ite Iff.rfl (fun z _ => absurd z (by decide)) (fun _ _ => ?_)
      refine T2_suc (fun k => by rw [x_nextTurn]) (fun k => by rw [x_nextTurn]) ?_
      refine T2_ite (c1 := (1 : Int32) = 0) (c2 := (1 : Int32) = 0) Iff.rfl (fun z _ => absurd z (by decide)) (fun _ _ => ?_)
      show T2 (fun k => if ¬ (nI e' < 0 ∨ 70000 ≤ (nI e').toNatClampNeg) then _ else _) (fun k => if ¬ (nI e' < 0 ∨ 70000 ≤ (nI e').toNatClampNeg) then _ else _) _
      refine T2_chk (n_in (by omega) (by omega)) (n_in (by omega) (by omega)) ?_
      show T2 (fun k => if s1.2.2.2 9 (nI e').toNatClampNeg = -1 then _ else _) (fun k => if s2.2.2.2 9 (nI e').toNatClampNeg = -1 then _ else _) _
      rw [n_cl (p := e') (by omega), S1'.1.1.1 9 _ (by omega) (by omega) (by omega), S2'.1.1.1 9 _ (by omega) (by omega) (by omega)]
      have p3' : s1.2.2.2 30 3 = nI (base + d + 1) := by rw [FC_30 c2 (by unfold Zn; omega) (by omega)]; exact p3
      refine T2_ite Iff.rfl (fun z _ => ?_) (fun z _ => ?_)
      · have kz := (ItL_9 hLe).mp z
        have ek : base + d + 1 = base + kk := by omega
        rw [ek] at p3' it3
        exact T2_some ⟨rfl, g1', g2', c4, c5, Or.inl ⟨rfl, w3, by omega, hK3, p3', it3⟩⟩
      · refine T2_suc (fun k => by rw [x_nextTurn]) (fun k => by rw [x_nextTurn]) ?_
        have kz : ¬ kk - d - 1 = 0 := fun y => z ((ItL_9 hLe).mpr y)
        have w36 := EI_w hK3
        have u1 := hm2 w2 (by omega)
        have u2 := hm1 (w2 + 1) w3 (by omega)
        have u3 := hm1 w' w2 hw2
        exact ih (ms w3 + 2 * (d + 1) + 3) (by omega) (d + 1) w3 1 s1.2 s2.2 _ _ (by rw [if_neg (by decide)]; exact Nat.le_refl _) (by omega) hK3 c4 c5 g1' g2' p3' it3 (by omega) (fun _ => by omega) k1 l1 k2 l2 rfl rfl
    · rw [z0]
      refine T2_ite Iff.rfl (fun _ _ => ?_) (fun z _ => absurd rfl z)
      refine T2_ite ⟨fun z => absurd z (EZ_e z1), fun z => absurd z (EZ_e z2)⟩ (fun z _ => absurd z (EZ_e z1)) (fun _ _ => ?_)
      refine T2_suc (fun k => by rw [x_nextTurn]) (fun k => by rw [x_nextTurn]) ?_
      refine T2_ite (c1 := (0 : Int32) = 0) (c2 := (0 : Int32) = 0) Iff.rfl (fun _ _ => ?_) (fun z _ => absurd rfl z)
      refine T2_suc (fun k => by rw [x_nextTurn]) (fun k => by rw [x_nextTurn]) ?_
      exact zend _ _ _ _ t (by omega) g1' g2' c4 c5 z1 z2
  refine T2_suc (fun k => by rw [x_nextTurn]) (fun k => by rw [x_nextTurn]) ?_
  rw [e1, e2, n4, o4]
  refine T2_ite Iff.rfl (fun _ _ => ?_) (fun z _ => absurd rfl z)
  refine T2_ob (E_sw (by omega) (by omega) hJ) (fun r1 r2 hr => ?_)
  obtain ⟨k1, k2, gA, lA, BA, hA, XA, gB, lB, BB, hB, XB, hX, rm1, rm2⟩ := hr
  have g1 := FC_tr f1 (FC_fe k1)
  have g2 := FC_tr f2 (FC_fe k2)
  have W1 := UT_fe k1 V1
  have W2 := UT_fe k2 V2
  have hK : EI t w' XC r1.2 r2.2 := ⟨gA, lA, BA, hA, XA, gB, lB, BB, hB, XB, hX⟩
  have p3 : r1.2.2.2 30 3 = nI (base + c) := by rw [k1.2.1 30 3 (by unfold AlR; omega) (by unfold Zn; omega) (by omega)]; exact h3
  have q3 : r2.2.2.2 30 3 = nI (base + c) := (hX.2.2.1.2.1 30 3 (by unfold AlR; omega) (by unfold Zn; omega) (InA_4 (by omega))).symm.trans p3
  have pit := ItS_fs (FS_fe k1) h3 (by omega) (Nat.le_refl _) hIt
  have S1 := Sc1_fc hS g1 (fun i => Inx_ct)
  have S2 := Sc1_fc hS2 g2 (fun i => Inx_ct)
  have ec : nI (base + c) - nI base = nI c := (n_sub (by omega) (by omega)).trans (by rw [show base + c - base = c by omega])
  refine T2_chk (by decide) (by decide) ?_
  rw [show (3 : Int32).toNatClampNeg = 3 from by decide, p3, q3, n2, o2, ec, n1, o1]
  refine T2_ite Iff.rfl (fun z0 _ => ?_) (fun z0 _ => ?_)
  · refine T2_suc (fun k => by rw [x_nextTurn]) (fun k => by rw [x_nextTurn]) ?_
    show T2 (fun k => if nI c = 0 then _ else _) (fun k => if nI c = 0 then _ else _) _
    refine T2_ite Iff.rfl (fun z _ => ?_) (fun z _ => ?_)
    · have c0 : c = 0 := (n_eq (q := 0) (by omega) (by decide)).mp z
      subst c0
      exact T2_some ⟨rfl, g1, g2, W1, W2, Or.inr (Or.inl ⟨rfl, w', hw, hK, p3, pit⟩)⟩
    · obtain ⟨d, rfl⟩ : ∃ d, c = d + 1 := ⟨c - 1, by
        have : c ≠ 0 := fun e => z (by rw [e]; rfl)
        omega⟩
      refine three d w' r1.2 r2.2 _ _ (by omega) (Nat.le_refl _) (Or.inl (Nat.le_refl _)) g1 g2 W1 W2 hK ?_ ?_ p3 pit n1 o1 n2 o2 rfl rfl
      · exact ⟨BA, hA, hX.1.1.1, by have := hX.1.1.2.1; omega, hX.1.1.2.2.1, by omega⟩
      · exact ⟨BB, hB, hX.2.1.1.1, by have := hX.2.1.1.2.1; omega, hX.2.1.1.2.2.1, by omega⟩
  · refine T2_ob (T2_t (s_iterOf (x := 0) S1.1.1.1 hm hL (hgo z0) rfl rfl (by omega)) (s_iterOf (x := 0) S2.1.1.1 hm hL (hgo z0) rfl rfl (by omega))) (fun a b hab => ?_)
    obtain ⟨⟨a2, an, e, ae, he, ⟨qn, q1, q2, hN⟩, hWe, hLe⟩, b2, bn, _⟩ := hab
    have be : b.1 = nI e := bn.trans (an.symm.trans ae)
    rw [a2, b2, ae, be]
    have hK' : EI t w' XC' r1.2 r2.2 := EIx_up hX hXC'.1 (by omega) (by omega)
    refine T2_ob (T2_and (E_openFor (q := base + c) (by omega) (by omega) S1 hK W1 W2 he hWe (by have := hgo z0; omega) p3 pit rfl rfl) (E_openFor (q := base + c) hXC'.2.1 (by omega) S1 hK' W1 W2 he hWe (by have := hgo z0; omega) p3 pit rfl rfl)) (fun s1 s2 hs => ?_)
    obtain ⟨⟨c1, c2, c3, c4, c5⟩, ⟨_, _, _, _, c6⟩⟩ := hs
    have y1 : FCt (Inx base) σ1 s1.2 := FC_tr g1 (FC_mo (fun i hi => by unfold Inx; omega) c1)
    have y2 : FCt (Inx base) σ2 s2.2 := FC_tr g2 (FC_mo (fun i hi => by unfold Inx; omega) c2)
    rcases c5 with ⟨w2, hw2, hK2, v3, v4⟩ | ⟨z1, z2⟩
    · obtain ⟨x1, x2⟩ := EI_e hK2
      have rm : Rm R s1.2 ∧ Rm R s2.2 := by
        rcases c6 with ⟨w3, hw3, hK3, _, _⟩ | ⟨z1, z2⟩
        · obtain ⟨t1, t2⟩ := EI_rm hK3
          exact ⟨Rm_mo hXC'.2.2.1 t1, Rm_mo hXC'.2.2.1 t2⟩
        · exact absurd x1 (EZ_e z1)
      rw [x1, x2]
      refine T2_ite Iff.rfl (fun _ _ => ?_) (fun z _ => absurd (by decide) z)
      rw [n_add1]
      exact three c w2 s1.2 s2.2 _ _ (hgo z0) hw2 (Or.inr ⟨z0, Nat.le_refl _⟩) y1 y2 c3 c4 hK2 rm.1 rm.2 v3 v4 n1 o1 n2 o2 rfl rfl
    · refine T2_ite ⟨fun z => absurd z (EZ_le z1), fun z => absurd z (EZ_le z2)⟩ (fun z _ => absurd z (EZ_le z1)) (fun _ _ => ?_)
      exact T2_some ⟨rfl, y1, y2, c3, c4, Or.inr (Or.inr ⟨rfl, z1, z2⟩)⟩
theorem xc_st (h : XC ≤ 401000) : ∃ R XC', XC - 400000 + 15 ≤ R ∧ R ≤ 79900 ∧ XC ≤ XC' ∧ XC' ≤ 402000 ∧ R ≤ XC' - 400000 + 10 ∧ XC' - 400000 + 10 ≤ 79900 := ⟨2000, 401990, by omega, by omega, by omega, by omega, by omega, by omega⟩
/-- the next turn -/
theorem E_nextTurn {c : Nat} {go : Int32} (hXC : XC ≤ 401000) (ht : t ≤ w + 17000) (hm : (1 ≤ m ∧ m < LNo T % 70001)) (hL : ItL T FN lc cn kk (T 5 m)) (hkk : 1 ≤ kk ∧ kk ≤ 60) (hb : base + kk ≤ 3100) (hS : Sc1 T FN lc cn σ1) (hI : EI t w XC σ1 σ2) (U1 : UT σ1) (U2 : UT σ2) (h3 : σ1.2.2 30 3 = nI (base + c)) (hIt : ItS σ1 (base + c)) (hc : c ≤ kk) (hgo : ¬ go = 0 → c < kk) {L1 L2 : Nat → Int32} (n1 : L1 1 = nI m) (o1 : L2 1 = nI m) (n2 : L1 2 = nI base) (o2 : L2 2 = nI base) (n3 : L1 3 = go) (o3 : L2 3 = go) : T2 (fun k => x_nextTurn k 0 L1 σ1) (fun k => x_nextTurn k 0 L2 σ2) (NTq t w XC base kk σ1 σ2) := by
  obtain ⟨ms, hm1, hm2⟩ := ms_ex 100
  obtain ⟨R, XC', h1, h2, h4⟩ := xc_st hXC
  refine T2_suc (fun k => by rw [x_nextTurn]) (fun k => by rw [x_nextTurn]) ?_
  exact E_nextTurn0 hm1 (fun a ha => hm2 a ha) h1 h2 h4 hXC ht hm hL hkk hb hS (Sc1_ei hS hI) _ c w go σ1 σ2 _ _ (Nat.le_refl _) (Nat.le_refl _) hI U1 U2 FC_rf FC_rf h3 hIt hc hgo n1 o1 n2 o2 n3 o3
end NXT
end JnS242
section JnS243
/-! Statements on both sides (reference): a for seeks its next turn. -/
def Isk (base i : Nat) : Prop := i = 0 ∨ i = 2 ∨ Inx base i
/-- behind seek: the body is begun; or the for is closed; or an error -/
def SKq (T : Nat → Nat → Int32) (t w XC m kk : Nat) (F : List Nat) (σ1 σ2 : MS) (r1 r2 : Int32 × MS) : Prop := r1.1 = r2.1 ∧ FCt (Isk (suI T F)) σ1 r1.2 ∧ FCt (Isk (suI T F)) σ2 r2.2 ∧ UT r1.2 ∧ UT r2.2 ∧ ((r1.1 = -1 ∧ ¬ T 7 m = -1 ∧ ∃ w', w ≤ w' ∧ EI t w' XC r1.2 r2.2 ∧ r1.2.2.2 30 0 = T 7 m ∧ r1.2.2.2 30 2 = nI (F.length + 1) ∧ r1.2.2.2 30 3 = nI (suI T F + kk) ∧ ItS r1.2 (suI T F + kk)) ∨ (r1.1 = nI m ∧ ∃ w', w ≤ w' ∧ EI t w' XC r1.2 r2.2 ∧ r1.2.2.2 30 2 = nI F.length ∧ r1.2.2.2 30 3 = nI (suI T F) ∧ ItS r1.2 (suI T F)) ∨ (r1.1 = -1 ∧ EZ t 179300 r1.2 ∧ EZ t 179300 r2.2))
section SEK
variable {T : Nat → Nat → Int32} {FN : Nat → Nat → Prop} {lc cn : Nat → Prop} {t w XC kk m : Nat} {F : List Nat} {σ1 σ2 : MS}
theorem Isk_ct {base i : Nat} (h : Isk base i) : Ict i := by unfold Isk Inx at h; unfold Ict; omega
theorem Isk_x {base i : Nat} (h : Inx base i) : Isk base i := Or.inr (Or.inr h)
theorem EI_30 {i : Nat} (hE : EI t w XC σ1 σ2) (hi : ¬ Zn 30 i) (hn : ¬ InA σ1 30 i) : σ2.2.2 30 i = σ1.2.2 30 i := by
  obtain ⟨g1, l1, B1, h1, X1, g2, l2, B2, h2, X2, m1, m2, hR, _⟩ := hE
  exact (hR.2.1 30 i (by unfold AlR; omega) hi hn).symm
theorem EI_B (hE : EI t w XC σ1 σ2) : StB (σ1.2.2 30) 0 ∧ StB (σ2.2.2 30) 0 := by
  obtain ⟨g1, l1, B1, h1, X1, g2, l2, B2, h2, X2, m1, m2, hR, _⟩ := hE
  obtain ⟨_, _, _, _, _, _, s, _⟩ := m1.2.1
  obtain ⟨_, _, _, _, _, _, s', _⟩ := m2.2.1
  exact ⟨s, s'⟩
theorem E_seek {c : Nat} {go : Int32} (hXC : XC ≤ 401000) (ht : t ≤ w + 17000) (hm : (1 ≤ m ∧ m < LNo T % 70001)) (hL : ItL T FN lc cn kk (T 5 m)) (hkk : 1 ≤ kk ∧ kk ≤ 60) (hb : suI T F + kk ≤ 3100) (hl : F.length + 1 ≤ 1050) (hcond : T 6 m = -1 ∨ Wx0 T FN lc (T 6 m)) (hS : Sc1 T FN lc cn σ1) (hI : EI t w XC σ1 σ2) (U1 : UT σ1) (U2 : UT σ2) (h2 : σ1.2.2 30 2 = nI (F.length + 1)) (hF : FSk T (σ1.2.2 30) (m :: F)) (h3 : σ1.2.2 30 3 = nI (suI T F + c)) (hIt : ItS σ1 (suI T F + c)) (hc : c ≤ kk) (hgo : ¬ go = 0 → c < kk) {L1 L2 : Nat → Int32} (n1 : L1 1 = nI m) (o1 : L2 1 = nI m) (n2 : L1 2 = go) (o2 : L2 2 = go) : T2 (fun k => x_seek k 0 L1 σ1) (fun k => x_seek k 0 L2 σ2) (SKq T t w XC m kk F σ1 σ2) := by
  have hS2 := Sc1_ei hS hI
  obtain ⟨⟨_, A0, A1⟩, _⟩ := id hF
  -- the end
  have nineZ : ∀ (π1 π2 : MS) (K1 K2 : Nat → Int32), FCt (Isk (suI T F)) σ1 π1 → FCt (Isk (suI T F)) σ2 π2 → UT π1 → UT π2 → EZ t 179300 π1 → EZ t 179300 π2 → T2 (fun k => x_seek k 9 K1 π1) (fun k => x_seek k 9 K2 π2) (SKq T t w XC m kk F σ1 σ2) := by
    intro π1 π2 K1 K2 g1 g2 W1 W2 z1 z2
    refine T2_suc (fun k => by rw [x_seek]) (fun k => by rw [x_seek]) ?_
    refine T2_ite ⟨fun z => absurd z (EZ_le z1), fun z => absurd z (EZ_le z2)⟩ (fun z _ => absurd z (EZ_le z1)) (fun _ _ => ?_)
    exact T2_some ⟨rfl, g1, g2, W1, W2, Or.inr (Or.inr ⟨rfl, z1, z2⟩)⟩
  have nine0 : ∀ (w' : Nat) (π1 π2 : MS) (K1 K2 : Nat → Int32), w ≤ w' → FCt (Isk (suI T F)) σ1 π1 → FCt (Isk (suI T F)) σ2 π2 → UT π1 → UT π2 → EI t w' XC π1 π2 → π1.2.2 30 2 = nI (F.length + 1) → FSk T (π1.2.2 30) (m :: F) → π1.2.2 30 3 = nI (suI T F) → ItS π1 (suI T F) → K1 1 = nI m → K2 1 = nI m → K1 4 = 0 → K2 4 = 0 → T2 (fun k => x_seek k 9 K1 π1) (fun k => x_seek k 9 K2 π2) (SKq T t w XC m kk F σ1 σ2) := by
    intro w' π1 π2 K1 K2 hw g1 g2 W1 W2 hJ p2 pF p3 pit k1 l1 k4 l4
    obtain ⟨e1, e2⟩ := EI_e hJ
    refine T2_suc (fun k => by rw [x_seek]) (fun k => by rw [x_seek]) ?_
    rw [e1, e2]
    refine T2_ite Iff.rfl (fun _ _ => ?_) (fun z _ => absurd (by decide) z)
    refine T2_suc (fun k => by rw [x_seek]) (fun k => by rw [x_seek]) ?_
    rw [k4, l4]
    refine T2_ite Iff.rfl (fun _ _ => ?_) (fun z _ => absurd rfl z)
    refine T2_suc (fun k => by rw [x_seek]) (fun k => by rw [x_seek]) ?_
    refine T2_ob (E_closeFor (Sc1_fc hS g1 (fun i => Isk_ct)) hJ W1 W2 hl p2 pF p3 (by omega) hL) (fun r1 r2 hr => ?_)
    obtain ⟨c1, c2, c3, c4, c5, c6, c7, c8⟩ := hr
    rw [k1, l1]
    exact T2_some ⟨rfl, FC_tr g1 (FC_mo (fun i hi => by unfold Isk Inx; omega) c4), FC_tr g2 (FC_mo (fun i hi => by unfold Isk Inx; omega) c5), c2, c3, Or.inr (Or.inl ⟨rfl, w', hw, c1, c6, c7, c8 pit⟩)⟩
  have nine1 : ∀ (w' : Nat) (π1 π2 : MS) (K1 K2 : Nat → Int32), ¬ T 7 m = -1 → w ≤ w' → FCt (Isk (suI T F)) σ1 π1 → FCt (Isk (suI T F)) σ2 π2 → UT π1 → UT π2 → EI t w' XC π1 π2 → π1.2.2 30 2 = nI (F.length + 1) → π1.2.2 30 3 = nI (suI T F + kk) → ItS π1 (suI T F + kk) → K1 1 = nI m → K2 1 = nI m → K1 4 = 1 → K2 4 = 1 → T2 (fun k => x_seek k 9 K1 π1) (fun k => x_seek k 9 K2 π2) (SKq T t w XC m kk F σ1 σ2) := by
    intro w' π1 π2 K1 K2 h7 hw g1 g2 W1 W2 hJ p2 p3 pit k1 l1 k4 l4
    obtain ⟨e1, e2⟩ := EI_e hJ
    have S1 := Sc1_fc hS g1 (fun i => Isk_ct)
    have S2 := Sc1_fc hS2 g2 (fun i => Isk_ct)
    refine T2_suc (fun k => by rw [x_seek]) (fun k => by rw [x_seek]) ?_
    rw [e1, e2]
    refine T2_ite Iff.rfl (fun _ _ => ?_) (fun z _ => absurd (by decide) z)
    refine T2_suc (fun k => by rw [x_seek]) (fun k => by rw [x_seek]) ?_
    rw [k4, l4, k1, l1]
    refine T2_ite Iff.rfl (fun z _ => absurd z (by decide)) (fun _ _ => ?_)
    refine T2_chk (n_in (by omega) (by omega)) (n_in (by omega) (by omega)) ?_
    refine T2_chk (by decide) (by decide) ?_
    rw [n_cl (p := m) (by omega), show (0 : Int32).toNatClampNeg = 0 from by decide, S1.1.1.1 7 _ (by omega) (by omega) (by omega), S2.1.1.1 7 _ (by omega) (by omega) (by omega)]
    refine T2_suc (fun k => by rw [x_seek]) (fun k => by rw [x_seek]) ?_
    have o : ∀ (τ : MS) j, j ≠ 0 → (mAr τ 30 0 (T 7 m)).2.2 30 j = τ.2.2 30 j := fun τ j hj => by rw [mAr_s, upd_other hj]
    refine T2_some ⟨rfl, FC_tr g1 (FC_w (Or.inl rfl)), FC_tr g2 (FC_w (Or.inl rfl)), UT_c30 (by unfold Zn; omega) (EI_B hJ).1 W1, UT_c30 (by unfold Zn; omega) (EI_B hJ).2 W2, Or.inl ⟨rfl, h7, w', hw, EI_c30 (by unfold Zn; omega) hJ, ?_, ?_, ?_, ?_⟩⟩
    · show (mAr π1 30 0 (T 7 m)).2.2 30 0 = _
      rw [mAr_s, upd_same]
    · exact (o π1 2 (by omega)).trans p2
    · exact (o π1 3 (by omega)).trans p3
    · exact ItS_c (σ := π1) (by omega) (mAr_o (by decide)) (fun i hi => o _ _ (by omega)) pit
  -- behind a turn
  have turn : ∀ (M w' : Nat) (s1 s2 : Int32 × MS) (π1 π2 : MS) (K1 K2 : Nat → Int32), 60001 ≤ w' + M → w ≤ w' → FCt (Isk (suI T F)) σ1 π1 → FCt (Isk (suI T F)) σ2 π2 → π1.2.2 30 2 = nI (F.length + 1) → FSk T (π1.2.2 30) (m :: F) → NTq t w' XC (suI T F) kk π1 π2 s1 s2 → K1 1 = nI m → K2 1 = nI m → K1 3 = nI (suI T F) → K2 3 = nI (suI T F) → K1 4 = s1.1 → K2 4 = s2.1 → T2 (fun k => x_seek k 1 K1 s1.2) (fun k => x_seek k 1 K2 s2.2) (SKq T t w XC m kk F σ1 σ2) := by
    intro M
    induction M with
    | zero =>
      intro w' s1 s2 π1 π2 K1 K2 hM hw g1 g2 p2 pF hs k1 l1 k3 l3 k4 l4
      obtain ⟨c1, c2, c3, c4, c5, c6⟩ := hs
      have g1' := FC_tr g1 (FC_mo (fun i => Isk_x) c2)
      have g2' := FC_tr g2 (FC_mo (fun i => Isk_x) c3)
      refine T2_suc (fun k => by rw [x_seek]) (fun k => by rw [x_seek]) ?_
      rw [k4, l4, ← c1]
      rcases c6 with ⟨z0, w2, hw2, hJ, _⟩ | ⟨z0, w2, hw2, hJ, _⟩ | ⟨z0, z1, z2⟩
      · have := EI_w hJ; omega
      · have := EI_w hJ; omega
      · rw [z0]
        refine T2_ite Iff.rfl (fun _ _ => ?_) (fun z _ => absurd rfl z)
        exact nineZ _ _ _ _ g1' g2' c4 c5 z1 z2
    | succ M ih =>
      intro w' s1 s2 π1 π2 K1 K2 hM hw g1 g2 p2 pF hs k1 l1 k3 l3 k4 l4
      obtain ⟨c1, c2, c3, c4, c5, c6⟩ := hs
      have g1' := FC_tr g1 (FC_mo (fun i => Isk_x) c2)
      have g2' := FC_tr g2 (FC_mo (fun i => Isk_x) c3)
      have p2' : s1.2.2.2 30 2 = nI (F.length + 1) := by rw [FC_30 c2 (by unfold Zn; omega) (by unfold Inx; omega)]; exact p2
      have pF' : FSk T (s1.2.2.2 30) (m :: F) := FSk_c (by show F.length + 1 ≤ 1050; omega) (fun i h1 h2 => FC_30 c2 (by unfold Zn; omega) (by unfold Inx; omega)) pF
      refine T2_suc (fun k => by rw [x_seek]) (fun k => by rw [x_seek]) ?_
      rcases c6 with ⟨z0, w2, hw2, hJ, q3, qit⟩ | ⟨z0, w2, hw2, hJ, q3, qit⟩ | ⟨z0, z1, z2⟩
      · rw [k4, l4, ← c1, z0]
        have k4' : K1 4 = 1 := k4.trans z0
        have l4' : K2 4 = 1 := l4.trans (c1.symm.trans z0)
        have S1 := Sc1_fc hS g1' (fun i => Isk_ct)
        have S2 := Sc1_fc hS2 g2' (fun i => Isk_ct)
        obtain ⟨e1, e2⟩ := EI_e hJ
        generalize s1.2 = ν1 at *
        generalize s2.2 = ν2 at *
        -- blocks 6 on
        have six : ∀ (w3 : Nat) (μ1 μ2 : MS) (Q1 Q2 : Nat → Int32), FE ν1 μ1 → FE ν2 μ2 → ((w2 ≤ w3 ∧ EI t w3 XC μ1 μ2) ∨ (EZ t 179300 μ1 ∧ EZ t 179300 μ2)) → Q1 1 = nI m → Q2 1 = nI m → Q1 3 = nI (suI T F) → Q2 3 = nI (suI T F) → T2 (fun k => x_seek k 6 Q1 μ1) (fun k => x_seek k 6 Q2 μ2) (SKq T t w XC m kk F σ1 σ2) := by
          intro w3 μ1 μ2 Q1 Q2 f1 f2 hor a1 a2 a3 a4
          have G1 := FC_tr g1' (FC_fe f1)
          have G2 := FC_tr g2' (FC_fe f2)
          refine T2_suc (fun k => by rw [x_seek]) (fun k => by rw [x_seek]) ?_
          rcases hor with ⟨hw3, hK⟩ | ⟨z1, z2⟩
          · obtain ⟨x1, x2⟩ := EI_e hK
            rw [x1, x2]
            refine T2_ite Iff.rfl (fun _ _ => ?_) (fun z _ => absurd rfl z)
            have q3' : μ1.2.2 30 3 = nI (suI T F + kk) := by rw [f1.2.1 30 3 (by unfold AlR; omega) (by unfold Zn; omega) (by omega)]; exact q3
            have q2' : μ1.2.2 30 2 = nI (F.length + 1) := by rw [f1.2.1 30 2 (by unfold AlR; omega) (by unfold Zn; omega) (by omega)]; exact p2'
            have qF' : FSk T (μ1.2.2 30) (m :: F) := FSk_c (by show F.length + 1 ≤ 1050; omega) (fun i h1 h2 => f1.2.1 30 i (by unfold AlR; omega) (by unfold Zn; omega) (by omega)) pF'
            refine T2_ob (E_nextTurn (c := kk) (go := 0) hXC (by omega) hm hL hkk hb (Sc1_fs S1 (FS_fe f1)) hK (UT_fe f1 c4) (UT_fe f2 c5) q3' (ItS_fs (FS_fe f1) q3 (by omega) (Nat.le_refl _) qit) (Nat.le_refl _) (fun z => absurd rfl z) (by exact a1) (by exact a2) (by exact a3) (by exact a4) rfl rfl) (fun y1 y2 hy => ?_)
            have hy0 := hy
            obtain ⟨d1, _, _, _, _, d6⟩ := hy0
            have b8 : ∀ (R1 R2 : Nat → Int32), R1 1 = nI m → R2 1 = nI m → R1 3 = nI (suI T F) → R2 3 = nI (suI T F) → R1 100 = y1.1 → R2 100 = y2.1 → T2 (fun k => x_seek k 8 R1 y1.2) (fun k => x_seek k 8 R2 y2.2) (SKq T t w XC m kk F σ1 σ2) := by
              intro R1 R2 e1 e2 e3 e4 e5 e6
              refine T2_suc (fun k => by rw [x_seek]) (fun k => by rw [x_seek]) ?_
              exact ih w3 y1 y2 μ1 μ2 _ _ (by omega) (by omega) G1 G2 q2' qF' hy e1 e2 e3 e4 e5 e6
            refine T2_ite (by rw [d1]) (fun z z' => ?_) (fun z z' => ?_)
            · refine T2_suc (fun k => by rw [x_seek]) (fun k => by rw [x_seek]) ?_
              exact b8 _ _ a1 a2 a3 a4 z.symm z'.symm
            · have y1e : y1.1 = 1 := by
                rcases d6 with d6 | d6 | d6
                · exact d6.1
                · exact absurd d6.1 z
                · exact absurd d6.1 z
              exact b8 _ _ a1 a2 a3 a4 y1e.symm (d1.symm.trans y1e).symm
          · refine T2_ite ⟨fun z => absurd z (EZ_e z1), fun z => absurd z (EZ_e z2)⟩ (fun z _ => absurd z (EZ_e z1)) (fun _ _ => ?_)
            refine T2_suc (fun k => by rw [x_seek]) (fun k => by rw [x_seek]) ?_
            refine T2_suc (fun k => by rw [x_seek]) (fun k => by rw [x_seek]) ?_
            refine T2_suc (fun k => by rw [x_seek]) (fun k => by rw [x_seek]) ?_
            refine T2_ite (c1 := (0 : Int32) = 0) (c2 := (0 : Int32) = 0) Iff.rfl (fun _ _ => ?_) (fun z _ => absurd rfl z)
            exact nineZ _ _ _ _ G1 G2 (UT_fe f1 c4) (UT_fe f2 c5) z1 z2
        -- block 5
        have five : ∀ (h : Int32) (w3 : Nat) (μ1 μ2 : MS) (Q1 Q2 : Nat → Int32), FE ν1 μ1 → FE ν2 μ2 → ((w2 ≤ w3 ∧ EI t w3 XC μ1 μ2) ∨ (EZ t 179300 μ1 ∧ EZ t 179300 μ2 ∧ h = 0)) → (h = 0 ∨ h = 1) → Q1 1 = nI m → Q2 1 = nI m → Q1 3 = nI (suI T F) → Q2 3 = nI (suI T F) → Q1 4 = 1 → Q2 4 = 1 → Q1 100 = h → Q2 100 = h → T2 (fun k => x_seek k 5 Q1 μ1) (fun k => x_seek k 5 Q2 μ2) (SKq T t w XC m kk F σ1 σ2) := by
          intro h w3 μ1 μ2 Q1 Q2 f1 f2 hor hh a1 a2 a3 a4 a5 a6 a7 a8
          have T1 := Sc1_fs S1 (FS_fe f1)
          have T2' := Sc1_fs S2 (FS_fe f2)
          refine T2_suc (fun k => by rw [x_seek]) (fun k => by rw [x_seek]) ?_
          rw [a7, a8]
          refine T2_ite Iff.rfl (fun _ _ => six w3 μ1 μ2 _ _ f1 f2 (hor.imp id (fun z => ⟨z.1, z.2.1⟩)) a1 a2 a3 a4) (fun hz _ => ?_)
          rw [a1, a2]
          refine T2_chk (n_in (by omega) (by omega)) (n_in (by omega) (by omega)) ?_
          rw [n_cl (p := m) (by omega), T1.1.1.1 7 _ (by omega) (by omega) (by omega), T2'.1.1.1 7 _ (by omega) (by omega) (by omega)]
          refine T2_ite Iff.rfl (fun _ _ => six w3 μ1 μ2 _ _ f1 f2 (hor.imp id (fun z => ⟨z.1, z.2.1⟩)) a1 a2 a3 a4) (fun h7 _ => ?_)
          rcases hor with ⟨hw3, hK⟩ | ⟨_, _, z⟩
          · refine nine1 w3 μ1 μ2 _ _ h7 (by omega) (FC_tr g1' (FC_fe f1)) (FC_tr g2' (FC_fe f2)) (UT_fe f1 c4) (UT_fe f2 c5) hK ?_ ?_ (ItS_fs (FS_fe f1) q3 (by omega) (Nat.le_refl _) qit) a1 a2 a5 a6
            · rw [f1.2.1 30 2 (by unfold AlR; omega) (by unfold Zn; omega) (by omega)]; exact p2'
            · rw [f1.2.1 30 3 (by unfold AlR; omega) (by unfold Zn; omega) (by omega)]; exact q3
          · exact absurd z hz
        have two : T2 (fun k => x_seek k 2 K1 ν1) (fun k => x_seek k 2 K2 ν2) (SKq T t w XC m kk F σ1 σ2) := by
          refine T2_suc (fun k => by rw [x_seek]) (fun k => by rw [x_seek]) ?_
          rw [k1, l1]
          refine T2_chk (n_in (by omega) (by omega)) (n_in (by omega) (by omega)) ?_
          rw [n_cl (p := m) (by omega), S1.1.1.1 6 _ (by omega) (by omega) (by omega), S2.1.1.1 6 _ (by omega) (by omega) (by omega)]
          refine T2_ite Iff.rfl (fun _ _ => ?_) (fun h6 _ => ?_)
          · refine T2_suc (fun k => by rw [x_seek]) (fun k => by rw [x_seek]) ?_
            exact five 1 w2 ν1 ν2 _ _ FE_rf FE_rf (Or.inl ⟨Nat.le_refl _, hJ⟩) (Or.inr rfl) k1 l1 k3 l3 k4' l4' rfl rfl
          · refine T2_chk (n_in3 (by omega) (by omega)) (n_in3 (by omega) (by omega)) ?_
            refine T2_ob (E_hold (by omega) (by omega) S1.1 (hcond.resolve_left h6) hJ rfl rfl) (fun y1 y2 hy => ?_)
            obtain ⟨d1, d2, d3, d4⟩ := hy
            refine T2_ite (by rw [d1]) (fun z z' => ?_) (fun z z' => ?_)
            · refine T2_suc (fun k => by rw [x_seek]) (fun k => by rw [x_seek]) ?_
              rcases d4 with ⟨w3, hw3, hK⟩ | ⟨z1, z2, _⟩
              · exact five 0 w3 _ _ _ _ d2 d3 (Or.inl ⟨hw3, hK⟩) (Or.inl rfl) k1 l1 k3 l3 k4' l4' rfl rfl
              · exact five 0 w2 _ _ _ _ d2 d3 (Or.inr ⟨z1, z2, rfl⟩) (Or.inl rfl) k1 l1 k3 l3 k4' l4' rfl rfl
            · refine T2_suc (fun k => by rw [x_seek]) (fun k => by rw [x_seek]) ?_
              rcases d4 with ⟨w3, hw3, hK⟩ | ⟨_, _, z0⟩
              · exact five 1 w3 _ _ _ _ d2 d3 (Or.inl ⟨hw3, hK⟩) (Or.inr rfl) k1 l1 k3 l3 k4' l4' rfl rfl
              · exact absurd z0 z
        refine T2_ite Iff.rfl (fun z _ => absurd z (by decide)) (fun _ _ => ?_)
        rw [e1, e2]
        refine T2_ite Iff.rfl (fun _ _ => ?_) (fun z _ => absurd rfl z)
        rw [k1, l1]
        refine T2_chk (n_in (by omega) (by omega)) (n_in (by omega) (by omega)) ?_
        rw [n_cl (p := m) (by omega), S1.1.1.1 7 _ (by omega) (by omega) (by omega), S2.1.1.1 7 _ (by omega) (by omega) (by omega)]
        refine T2_ite Iff.rfl (fun _ _ => two) (fun h7 _ => ?_)
        refine T2_chk (n_in3 (by omega) (by omega)) (n_in3 (by omega) (by omega)) ?_
        rw [S1.1.1.1 6 _ (by omega) (by omega) (by omega), S2.1.1.1 6 _ (by omega) (by omega) (by omega)]
        refine T2_ite Iff.rfl (fun _ _ => ?_) (fun _ _ => two)
        exact nine1 w2 ν1 ν2 _ _ h7 (by omega) g1' g2' c4 c5 hJ p2' q3 qit k1 l1 k4' l4'
      · rw [k4, l4, ← c1, z0]
        refine T2_ite Iff.rfl (fun _ _ => ?_) (fun z _ => absurd rfl z)
        exact nine0 w2 _ _ _ _ (by omega) g1' g2' c4 c5 hJ p2' pF' q3 qit k1 l1 (k4.trans z0) (l4.trans (c1.symm.trans z0))
      · rw [k4, l4, ← c1, z0]
        refine T2_ite Iff.rfl (fun _ _ => ?_) (fun z _ => absurd rfl z)
        exact nineZ _ _ _ _ g1' g2' c4 c5 z1 z2
  have pi : (3214 : Int32) + 2 * nI F.length + 1 = nI (3214 + 2 * F.length + 1) := by
    rw [show (2 : Int32) * nI F.length = nI (2 * F.length) from n_mulN 2 F.length, show (3214 : Int32) + nI (2 * F.length) = nI (3214 + 2 * F.length) from n_add (p := 3214) (by omega), n_add1]
  refine T2_suc (fun k => by rw [x_seek]) (fun k => by rw [x_seek]) ?_
  refine T2_chk (by decide) (by decide) ?_
  rw [show (2 : Int32).toNatClampNeg = 2 from by decide, EI_30 hI (i := 2) (by unfold Zn; omega) (InA_4 (by omega)), h2, n_sub1 (by omega), pi]
  refine T2_chk (n_in (by omega) (by omega)) (n_in (by omega) (by omega)) ?_
  rw [n_cl (p := 3214 + 2 * F.length + 1) (by omega), EI_30 hI (i := 3214 + 2 * F.length + 1) (by unfold Zn; omega) (InA_fo h2 (by omega) (by omega)), A1, n1, o1, n2, o2]
  refine T2_ob (E_nextTurn (c := c) (go := go) hXC ht hm hL hkk hb hS hI U1 U2 h3 hIt hc hgo rfl rfl rfl rfl rfl rfl) (fun s1 s2 hs => ?_)
  exact turn 60001 w s1 s2 σ1 σ2 _ _ (by omega) (Nat.le_refl _) FC_rf FC_rf h2 hF hs n1 o1 rfl rfl rfl rfl
end SEK
end JnS243
section JnS244
/-! Statements on both sides (reference): an answer below the top; assignments. -/
/-- with an error: a value is put at i, the top is lowered to it -/
theorem EZ_sd {σ : MS} {g : Nat → Prop} {l : List Nat} {B h X b i t' : Nat} {x : Int32} (hM : MI t' X g l B h σ) (hi : i ≤ t' - 1) (hb : i + 1 ≤ b) (he : ¬ σ.1 56 = 0) (hE : ErB σ) (hw : ∃ w, σ.1 57 = nI w ∧ w ≤ 80000) (hc : ∃ c, σ.1 95 = nI c ∧ c ≤ 1000000) (hx : Vd g x) : EZ i b (mPu σ i x) := by
  obtain ⟨m, m1, m2⟩ := hx
  rw [m1]
  have hM1 := MI_pu (MI_mo hM (show i ≤ t' by omega)) m2
  refine ⟨g, l, B, h, i + 1, MI_any hM1.1 hM1.2.1 hM1.2.2.1, rfl, by omega, hb, ?_, ErB_c (mPu_s (by decide)) hE, ?_, ?_⟩
  · rw [mPu_s (by decide)]; exact he
  · rw [mPu_s (by decide)]; exact hw
  · rw [mPu_s (by decide)]; exact hc
section AND
variable {g1 g2 : Nat → Prop} {l1 l2 : List Nat} {B1 h1 B2 h2 X1 X2 t w XC : Nat} {ρ1 ρ2 : MS}
/-- an answer is counted and put at i, the top is lowered to it -/
theorem E_anD {c i : Nat} {Q : Int32 × MS → Int32 × MS → Prop} {F1 F2 : Nat → Int32 × MS → Option (Int32 × MS)} {r1 r2 : Int32 × MS} (m1 : MI (t + 1) X1 g1 l1 B1 h1 ρ1) (m2 : MI (t + 1) X2 g2 l2 B2 h2 ρ2) (hR : RA (t + 1) g1 g2 ρ1 ρ2) (i1 : IT g1 ρ1) (i2 : IT g2 ρ2) (hi : i ≤ t) (ht : t ≤ 176000 ∧ XC - 400000 + 10 ≤ c) (hT : TyT (ρ1.2.2 2)) (hT2 : ρ1.2.2 2 = ρ2.2.2 2) (ha : ∃ a, r1.2.1 95 = nI a ∧ a ≤ 1000000) (ha2 : r1.2.1 95 = r2.2.1 95)
    (s1 : SO (t + 1) w XC g1 ρ1 r1) (s2 : SO (t + 1) w XC g2 ρ2 r2) (hK : KS c r1 r2) (hQ : ∀ v1 v2 : Int32 × MS, FE ρ1 (mPu v1.2 i v1.1) → FE ρ2 (mPu v2.2 i v2.1) → ((∃ w', w ≤ w' ∧ EI (i + 1) w' XC (mPu v1.2 i v1.1) (mPu v2.2 i v2.1)) ∨ (EZ i (t + 2001) (mPu v1.2 i v1.1) ∧ EZ i (t + 2001) (mPu v2.2 i v2.1))) → T2 (fun k => F1 k v1) (fun k => F2 k v2) Q) :
    T2 (fun k => ob (x_answer k 0 (upd (fun _ => 0) 1 r1.1) r1.2) (F1 k)) (fun k => ob (x_answer k 0 (upd (fun _ => 0) 1 r2.1) r2.2) (F2 k)) Q := by
  obtain ⟨gA, lA, BA, hA, XA, wA, tA, a1, a2, a3, a4, a5, a6, a7, ⟨a8, a9, a10, a11⟩, a12⟩ := s1
  obtain ⟨gB, lB, BB, hB, XB, wB, tB, b1, b2, b3, b4, b5, b6, b7, ⟨b8, b9, b10, b11⟩, b12⟩ := s2
  have f1 := FE_eo m1.2.1 a2
  have f2 := FE_eo m2.2.1 b2
  obtain ⟨c1, c2, c3⟩ := a3
  obtain ⟨d1, d2, d3⟩ := b3
  have ha' : ∃ a, r2.2.1 95 = nI a ∧ a ≤ 1000000 := by rw [← ha2]; exact ha
  by_cases er : r1.2.1 56 = 0
  · have er2 := hK.1.1.mp er
    obtain ⟨⟨⟨rB1, rh1, rm1, rm2, rm3, rm4⟩, ⟨rB2, rh2, rn1, rn2, rn3, rn4⟩⟩, k57, u, v, k1, k2, k3, k4, k5⟩ := hK.1.2 er
    have room : hA + (XC - 400000) + 10 ≤ BA + 870000 ∧ hB + (XC - 400000) + 10 ≤ BB + 870000 := by
      have p1 := HS_b a1.1
      have p2 := HS_b b1.1
      have p3 := a1.1.2.1
      have p4 := b1.1.2.1
      have e1 : BA = rB1 := (n_eq (by omega) (by omega)).mp (a1.1.1.symm.trans rm1)
      have e2 : BB = rB2 := (n_eq (by omega) (by omega)).mp (b1.1.1.symm.trans rn1)
      have e3 : hA = rh1 := (n_eq (by omega) (by omega)).mp (a1.1.2.2.1.symm.trans rm3)
      have e4 : hB = rh2 := (n_eq (by omega) (by omega)).mp (b1.1.2.2.1.symm.trans rn3)
      omega
    have e1 : tA = t + 1 := a11.resolve_right (fun z => z er)
    have e2 : tB = t + 1 := b11.resolve_right (fun z => z er2)
    subst e1
    subst e2
    have ew : wB = wA := by
      have z := b5.symm.trans (k57.symm.trans a5)
      exact (n_eq (by omega) (by omega)).mp z
    subst ew
    have bc := HS_vb a1.1 c3
    have bd := HS_vb b1.1 d3
    have eu : c1 = u := (n_eq (by omega) (by omega)).mp (c2.symm.trans k1)
    have ev : d1 = v := (n_eq (by omega) (by omega)).mp (d2.symm.trans k2)
    subst eu
    subst ev
    have hR' := RA_step m1.2.1 m2.2.1 hR a2 b2 k57 (a8.trans b8.symm) hK.2
    have j1 : IT gA r1.2 := IT_eo m1.2.1 m1.1 (Or.inr ⟨BA, hA, a1.1⟩) a2 i1
    have j2 : IT gB r2.2 := IT_eo m2.2.1 m2.1 (Or.inr ⟨BB, hB, b1.1⟩) b2 i2
    have x1 := a12 er
    have x2 := b12 er2
    refine T2_ob (T2_of (s_answer a1.1 c3 a5 (by omega) (by exact c2)) (s_answer b1.1 d3 b5 (by omega) (by exact d2)) (fun n => Pm_wl (fun k => wl_answer k _ _ _) (fun k => wl_answer k _ _ _) (k_answer a1.1 b1.1 c3 d3 k5 er er2 a5 b5 (by omega) (by exact c2) (by exact d2)))) (fun z1 z2 hz => ?_)
    obtain ⟨⟨⟨y1, y2, y3, y4⟩, wl1, wl2⟩, _, _⟩ := hz
    have ys1 : ∀ j, j ≠ 56 → j ≠ 57 → z1.2.1 j = r1.2.1 j := fun j q1 q2 => WkO_s y3 q1 q2
    have ys2 : ∀ j, j ≠ 56 → j ≠ 57 → z2.2.1 j = r2.2.1 j := fun j q1 q2 => WkO_s y4 q1 q2
    have n1 : MI (t + 1) XA gA lA BA hA z1.2 := MI_c a1 (ys1 54 (by decide) (by decide)) (ys1 55 (by decide) (by decide)) (ys1 63 (by decide) (by decide)) (ys1 72 (by decide) (by decide)) (WkO_a y3)
    have n2 : MI (t + 1) XB gB lB BB hB z2.2 := MI_c b1 (ys2 54 (by decide) (by decide)) (ys2 55 (by decide) (by decide)) (ys2 63 (by decide) (by decide)) (ys2 72 (by decide) (by decide)) (WkO_a y4)
    have z59 : z1.2.1 59 = nI (t + 1) := (ys1 59 (by decide) (by decide)).trans a8
    have w59 : z2.2.1 59 = nI (t + 1) := (ys2 59 (by decide) (by decide)).trans b8
    have s28 : z1.2.2.2 28 = r1.2.2.2 28 := congrFun (WkO_a y3) 28
    have t28 : z2.2.2.2 28 = r2.2.2.2 28 := congrFun (WkO_a y4) 28
    refine hQ z1 z2 (FE_tr f1 (FE_tr (FE_wk y3) FE_pu)) (FE_tr f2 (FE_tr (FE_wk y4) FE_pu)) ?_
    rw [y1, y2]
    by_cases le : wB + szN (r1.2.2.2 28) c1 ≤ 60000
    · have zr1 := (WkO_er er y3).mpr le
      have zr2 := (WkO_er er2 y4).mpr le
      have y57 : z1.2.1 57 = nI (wB + szN (r1.2.2.2 28) c1) := WkO_57 y3
      refine Or.inl ⟨wB + szN (r1.2.2.2 28) c1, by omega, gA, lA, BA, hA, XA + 6 * szN (z1.2.2.2 28) c1, gB, lB, BB, hB, XB + 6 * szN (z2.2.2.2 28) d1, MI_pu (MI_mo n1 (show i ≤ t + 1 by omega)) c3, MI_pu (MI_mo n2 (show i ≤ t + 1 by omega)) d3, ?_, ?_, ?_, rfl, ?_, ?_, ?_, ⟨le, room⟩, ?_, ?_, ⟨?_, ?_⟩, ?_⟩
      · refine RA_pu n1.2.1 (RA_c (RA_mo (show i ≤ t + 1 by omega) hR') (WkO_a y3) (WkO_a y4) (ys1 63 (by decide) (by decide)) (ys1 72 (by decide) (by decide)) (ys1 22 (by decide) (by decide)) (ys1 24 (by decide) (by decide)) (ys1 30 (by decide) (by decide)) (ys1 44 (by decide) (by decide)) (fun j hj => ?_) ?_) ?_
        · by_cases e57 : j = 57
          · rw [e57, y57, WkO_57 y4]
          · rw [ys1 j (by unfold AlS at hj; omega) e57, ys2 j (by unfold AlS at hj; omega) e57]
            exact hR'.2.2.1 j hj
        · rw [wl1, wl2]; exact hK.2
        · rw [s28, t28]; exact ⟨c1, d1, rfl, c3, rfl, d3, k5, bc, bd⟩
      · exact IT_c ((mPu_s (by decide)).trans (ys1 72 (by decide) (by decide))) ((mPu_o (by decide)).trans (congrFun (WkO_a y3) 34)) ((mPu_o (by decide)).trans (congrFun (WkO_a y3) 35)) ((mPu_o (by decide)).trans s28) j1
      · exact IT_c ((mPu_s (by decide)).trans (ys2 72 (by decide) (by decide))) ((mPu_o (by decide)).trans (congrFun (WkO_a y4) 34)) ((mPu_o (by decide)).trans (congrFun (WkO_a y4) 35)) ((mPu_o (by decide)).trans t28) j2
      · rw [mPu_s (by decide)]; exact zr1
      · rw [mPu_s (by decide)]; exact zr2
      · rw [mPu_s (by decide)]; exact y57
      · rw [s28]; omega
      · rw [t28, (EVb_sz k5).1]; omega
      · rw [mPu_o (by decide), congrFun (WkO_a y3) 2, f1.2.2.1]; exact hT
      · rw [mPu_o (by decide), mPu_o (by decide), congrFun (WkO_a y3) 2, congrFun (WkO_a y4) 2, f1.2.2.1, f2.2.2.1]; exact hT2
      · rw [mPu_s (by decide), ys1 95 (by decide) (by decide)]; exact ha
    · have zr1 : ¬ z1.2.1 56 = 0 := fun y => le ((WkO_er er y3).mp y)
      have zr2 : ¬ z2.2.1 56 = 0 := fun y => le ((WkO_er er2 y4).mp y)
      have sz := szN_b a1.1 c3
      refine Or.inr ⟨EZ_sd n1 (show i ≤ t + 1 - 1 by omega) (by omega) zr1 (WkO_E y3 a4) ⟨_, WkO_57 y3, by omega⟩ (by rw [ys1 95 (by decide) (by decide)]; exact ha) ⟨c1, rfl, c3⟩, EZ_sd n2 (show i ≤ t + 1 - 1 by omega) (by omega) zr2 (WkO_E y4 b4) ⟨_, WkO_57 y4, by omega⟩ (by rw [ys2 95 (by decide) (by decide)]; exact ha') ⟨d1, rfl, d3⟩⟩
  · have er2 : ¬ r2.2.1 56 = 0 := fun z => er (hK.1.1.mpr z)
    have an : ∀ (r : Int32 × MS), ¬ r.2.1 56 = 0 → Tm (fun k => x_answer k 0 (upd (fun _ => 0) 1 r.1) r.2) (fun s => s = r) := fun r he => by
      refine Tm_suc (fun k => by rw [x_answer]) ?_
      refine Tm_ite (fun z => absurd z he) (fun _ => ?_)
      refine Tm_suc (fun k => by rw [x_answer]) ?_
      exact Tm_some rfl
    refine T2_ob (T2_t (an r1 er) (an r2 er2)) (fun z1 z2 hz => ?_)
    rw [hz.1, hz.2]
    refine hQ _ _ (FE_tr f1 FE_pu) (FE_tr f2 FE_pu) (Or.inr ⟨EZ_sd a1 (show i ≤ tA - 1 by omega) (by omega) er a4 ⟨_, a5, by omega⟩ ha ⟨c1, c2, c3⟩, EZ_sd b1 (show i ≤ tB - 1 by omega) (by omega) er2 b4 ⟨_, b5, by omega⟩ ha' ⟨d1, d2, d3⟩⟩)
end AND
section WWK
variable {T : Nat → Nat → Int32} {FN : Nat → Nat → Prop} {lc cn : Nat → Prop} {t w XC k p s n : Nat} {σ1 σ2 : MS} {ch : Nat → Nat}
theorem SQ_mo {b b' : Nat} {r1 r2 : MS} (h : SQ b t w XC σ1 σ2 r1 r2) (hb : b ≤ b') : SQ b' t w XC σ1 σ2 r1 r2 := ⟨h.1, h.2.1, h.2.2.1, h.2.2.2.1, h.2.2.2.2.imp id (fun z => ⟨EZ_mo z.1 (Nat.le_refl _) hb, EZ_mo z.2 (Nat.le_refl _) hb⟩)⟩
/-- keys, then the write -/
theorem E_writeWorked (hX : XC ≤ 402000) (h : Tgt T FN lc k ch) (hn : NmW T lc cn (ch 0) s) (ht : t + kys T ch k ≤ w + 17000) (hk7 : kys T ch k ≤ 17000) (hp : p < t) (hS : Sc1 T FN lc cn σ1) (hI : EI t w XC σ1 σ2) (U1 : UT σ1) (U2 : UT σ2) {L1 L2 : Nat → Int32} (d1 : L1 1 = nI (ch k)) (d2 : L2 1 = nI (ch k)) (q1 : L1 2 = nI p) (q2 : L2 2 = nI p) : T2 (fun n => x_writeWorked n 0 L1 σ1) (fun n => x_writeWorked n 0 L2 σ2) (fun r1 r2 => SQ 179301 t w XC σ1 σ2 r1.2 r2.2) := by
  obtain ⟨t1, t2⟩ := EI_59 hI
  have kk := kys_ge (T := T) (ch := ch) (i := k)
  have w6 := EI_w hI
  refine T2_suc (fun n => by rw [x_writeWorked]) (fun n => by rw [x_writeWorked]) ?_
  refine T2_ob (E_workParts hX h ht hS.1 hI (by exact d1) (by exact d2)) (fun r1 r2 hr => ?_)
  obtain ⟨f1, f2, hr⟩ := hr
  have V1 := UT_fe f1 U1
  have V2 := UT_fe f2 U2
  rw [t1, t2, d1, d2, q1, q2]
  rcases hr with ⟨w2, hw2, hJ⟩ | ⟨z1, z2⟩
  · refine T2_ob (E_write (u := t) (p := p) hX h hn (by omega) (Nat.le_refl _) (by omega) (Sc1_fs hS (FS_fe f1)) hJ V1 V2 rfl rfl rfl rfl rfl rfl) (fun s1 s2 hs => ?_)
    obtain ⟨c1, c2, c3, c4, c5⟩ := hs
    refine T2_some ⟨FS_tr (FS_fe f1) (FS_tr c1 (FS_sc (by omega))), FS_tr (FS_fe f2) (FS_tr c2 (FS_sc (by omega))), UT_c c3 rfl rfl rfl rfl, UT_c c4 rfl rfl rfl rfl, ?_⟩
    rcases c5 with ⟨w3, hw3, hK⟩ | ⟨z1, z2⟩
    · exact Or.inl ⟨w3, by omega, EI_dn (by omega) hK⟩
    · exact Or.inr ⟨EZ_dn z1 (by omega) (by omega), EZ_dn z2 (by omega) (by omega)⟩
  · refine T2_ob (T2_t (s_writeZ (EZ_le z1)) (s_writeZ (EZ_le z2))) (fun s1 s2 hs => ?_)
    rw [hs.1, hs.2]
    exact T2_some (SQ_z f1 f2 U1 U2 (Nat.le_refl _) (by omega) (EZ_mo z1 (Nat.le_refl _) (by omega)) (EZ_mo z2 (Nat.le_refl _) (by omega)))
theorem s_passZ {τ : MS} (he : ¬ τ.1 56 = 0) {L : Nat → Int32} : Tm (fun n => x_pass n 0 L τ) (fun r => r = (0, τ)) := by
  refine Tm_suc (fun n => by rw [x_pass]) ?_
  refine Tm_ite (fun z => absurd z he) (fun _ => ?_)
  refine Tm_suc (fun n => by rw [x_pass]) ?_
  exact Tm_some rfl
/-- how many keys a target of a call has at the most (kept beside the tables) -/
def KBn (T : Nat → Nat → Int32) : Nat := (T 99 0).toNatClampNeg
/-- what is to be shown behind a statement: with an error; or behind its pass -/
def Bhd (T : Nat → Nat → Int32) (XC n : Nat) (σ1 σ2 : MS) (Q : MS → MS → Prop) : Prop := (∀ τ1 τ2, FSt σ1 τ1 → FSt σ2 τ2 → UT τ1 → UT τ2 → EZ 0 179400 τ1 → EZ 0 179400 τ2 → Q τ1 τ2) ∧ ∀ (t w : Nat) (τ1 τ2 : MS), t + 9 + KBn T ≤ w + 17000 → FSt σ1 τ1 → FSt σ2 τ2 → UT τ1 → UT τ2 → EI t w XC τ1 τ2 → ∀ L1 L2 : Nat → Int32, L1 1 = nI n → L2 1 = nI n → T2 (fun k => x_pass k 0 L1 τ1) (fun k => x_pass k 0 L2 τ2) (fun r1 r2 => Q r1.2 r2.2)
theorem Bh_p {Q : MS → MS → Prop} {b t w : Nat} {τ1 τ2 : MS} (hB : Bhd T XC n σ1 σ2 Q) (ht : t + 9 + KBn T ≤ w + 17000) (hb : b ≤ 179400) (hq : SQ b t w XC σ1 σ2 τ1 τ2) {L1 L2 : Nat → Int32} (d1 : L1 1 = nI n) (d2 : L2 1 = nI n) : T2 (fun k => ob (x_pass k 0 L1 τ1) (fun r => some (0, r.2))) (fun k => ob (x_pass k 0 L2 τ2) (fun r => some (0, r.2))) (fun r1 r2 => Q r1.2 r2.2) := by
  obtain ⟨c1, c2, c3, c4, c5⟩ := hq
  rcases c5 with ⟨w', hw', hJ⟩ | ⟨z1, z2⟩
  · exact T2_ob (hB.2 t w' τ1 τ2 (by omega) c1 c2 c3 c4 hJ L1 L2 d1 d2) (fun r1 r2 hr => T2_some hr)
  · refine T2_ob (T2_t (s_passZ (EZ_e z1)) (s_passZ (EZ_e z2))) (fun r1 r2 hr => ?_)
    rw [hr.1, hr.2]
    exact T2_some (hB.1 τ1 τ2 c1 c2 c3 c4 (EZ_mo z1 (by omega) hb) (EZ_mo z2 (by omega) hb))
/-- an assignment -/
theorem E_assignTo {Q : MS → MS → Prop} (hXC : XC ≤ 402000) (hn : (1 ≤ n ∧ n < LNo T % 70001)) (h : Tgt T FN lc k ch) (hnm : NmW T lc cn (ch 0) s) (x5 : T 5 n = nI (ch k)) (x6 : Wx0 T FN lc (T 6 n)) (ht : kys T ch k + 10 + KBn T ≤ 17000) (hS : Sc1 T FN lc cn σ1) (hI : EI 0 w XC σ1 σ2) (U1 : UT σ1) (U2 : UT σ2) (hB : Bhd T XC n σ1 σ2 Q) {L1 L2 : Nat → Int32} (d1 : L1 1 = nI n) (d2 : L2 1 = nI n) : T2 (fun k => x_assignTo k 0 L1 σ1) (fun k => x_assignTo k 0 L2 σ2) (fun r1 r2 => Q r1.2 r2.2) := by
  have hS2 := Sc1_ei hS hI
  have kk := kys_ge (T := T) (ch := ch) (i := k)
  obtain ⟨t1, t2⟩ := EI_59 hI
  have tb : ∀ (τ1 τ2 : MS), FE σ1 τ1 → FE σ2 τ2 → ∀ a i, 4 ≤ a → a ≤ 9 → (1 ≤ i ∧ i < LNo T % 70001) → τ1.2.2 a i = T a i ∧ τ2.2.2 a i = T a i := fun τ1 τ2 f1 f2 a i h1 h2 h3 => ⟨(STb_fe hS.1.1 f1).1 a i h1 (by omega) ⟨fun _ => h3, fun z => by omega⟩, (STb_fe hS2.1.1 f2).1 a i h1 (by omega) ⟨fun _ => h3, fun z => by omega⟩⟩
  -- with an error
  have oneZ : ∀ (τ1 τ2 : MS) (N1 N2 : Nat → Int32), FE σ1 τ1 → FE σ2 τ2 → EZ 0 179400 τ1 → EZ 0 179400 τ2 → T2 (fun k => x_assignTo k 1 N1 τ1) (fun k => x_assignTo k 1 N2 τ2) (fun r1 r2 => Q r1.2 r2.2) := by
    intro τ1 τ2 N1 N2 f1 f2 z1 z2
    refine T2_suc (fun n => by rw [x_assignTo]) (fun n => by rw [x_assignTo]) ?_
    refine T2_ite ⟨fun z => absurd z (EZ_le z1), fun z => absurd z (EZ_le z2)⟩ (fun z _ => absurd z (EZ_le z1)) (fun _ _ => ?_)
    exact T2_some (hB.1 τ1 τ2 (FS_fe f1) (FS_fe f2) (UT_fe f1 U1) (UT_fe f2 U2) z1 z2)
  -- the write
  have four : ∀ (w' : Nat) (τ1 τ2 : MS) (N1 N2 : Nat → Int32), w ≤ w' → FE σ1 τ1 → FE σ2 τ2 → EI (kys T ch k + 1) w' XC τ1 τ2 → N1 1 = nI n → N2 1 = nI n → N1 2 = nI (ch k) → N2 2 = nI (ch k) → N1 3 = nI 0 → N2 3 = nI 0 → N1 4 = nI (kys T ch k) → N2 4 = nI (kys T ch k) → T2 (fun k => x_assignTo k 4 N1 τ1) (fun k => x_assignTo k 4 N2 τ2) (fun r1 r2 => Q r1.2 r2.2) := by
    intro w' τ1 τ2 N1 N2 hw f1 f2 hJ a1 b1 a2 b2 a3 b3 a4 b4
    refine T2_suc (fun n => by rw [x_assignTo]) (fun n => by rw [x_assignTo]) ?_
    refine T2_ob (E_write (u := 0) (p := kys T ch k) hXC h hnm (by omega) (by omega) (by omega) (Sc1_fs hS (FS_fe f1)) hJ (UT_fe f1 U1) (UT_fe f2 U2) (by exact a2) (by exact b2) (by exact a3) (by exact b3) (by exact a4) (by exact b4)) (fun r1 r2 hr => ?_)
    exact Bh_p hB (t := kys T ch k + 1) (b := 179301) (w := w') (by omega) (by omega) ⟨FS_tr (FS_fe f1) hr.1, FS_tr (FS_fe f2) hr.2.1, hr.2.2⟩ (by exact a1) (by exact b1)
  have fourZ : ∀ (τ1 τ2 : MS) (N1 N2 : Nat → Int32) (x : Int32), FE σ1 τ1 → FE σ2 τ2 → N1 1 = nI n → N2 1 = nI n → EZ 0 179400 τ1 → EZ 0 179400 τ2 → T2 (fun k => x_assignTo k 4 N1 τ1) (fun k => x_assignTo k 4 N2 τ2) (fun r1 r2 => Q r1.2 r2.2) := by
    intro τ1 τ2 N1 N2 x f1 f2 a1 b1 z1 z2
    refine T2_suc (fun n => by rw [x_assignTo]) (fun n => by rw [x_assignTo]) ?_
    refine T2_ob (T2_t (s_writeZ (EZ_le z1)) (s_writeZ (EZ_le z2))) (fun r1 r2 hr => ?_)
    rw [hr.1, hr.2]
    exact Bh_p hB (t := 0) (b := 179400) (w := w) (by omega) (Nat.le_refl _) ⟨FS_fe f1, FS_fe f2, UT_fe f1 U1, UT_fe f2 U2, Or.inr ⟨z1, z2⟩⟩ (by exact a1) (by exact b1)
  -- behind the exp
  have one : ∀ (w' : Nat) (τ1 τ2 : MS) (N1 N2 : Nat → Int32), w ≤ w' → FE σ1 τ1 → FE σ2 τ2 → EI (kys T ch k + 1) w' XC τ1 τ2 → N1 1 = nI n → N2 1 = nI n → N1 2 = nI (ch k) → N2 2 = nI (ch k) → N1 3 = nI 0 → N2 3 = nI 0 → T2 (fun k => x_assignTo k 1 N1 τ1) (fun k => x_assignTo k 1 N2 τ2) (fun r1 r2 => Q r1.2 r2.2) := by
    intro w' τ1 τ2 N1 N2 hw f1 f2 hJ a1 b1 a2 b2 a3 b3
    obtain ⟨e1, e2⟩ := EI_e hJ
    obtain ⟨s1, s2⟩ := EI_59 hJ
    refine T2_suc (fun n => by rw [x_assignTo]) (fun n => by rw [x_assignTo]) ?_
    rw [e1, e2]
    refine T2_ite Iff.rfl (fun _ _ => ?_) (fun z _ => absurd (by decide) z)
    refine T2_suc (fun n => by rw [x_assignTo]) (fun n => by rw [x_assignTo]) ?_
    rw [a1, b1, s1, s2, n_sub1 (by omega)]
    refine T2_chk (n_in (by omega) (by omega)) (n_in (by omega) (by omega)) ?_
    rw [n_cl (p := n) (by omega), (tb τ1 τ2 f1 f2 4 _ (by omega) (by omega) (by omega)).1, (tb τ1 τ2 f1 f2 4 _ (by omega) (by omega) (by omega)).2]
    refine T2_ite Iff.rfl (fun _ _ => ?_) (fun _ _ => four w' τ1 τ2 _ _ hw f1 f2 hJ a1 b1 a2 b2 a3 b3 rfl rfl)
    refine T2_ob (E_readParts (u := 0) (fl := 1) hXC h (by omega) (by omega) (Sc0_fe hS.1 f1) hJ (by exact a2) (by exact b2) (by exact a3) (by exact b3) rfl rfl) (fun r1 r2 hr => ?_)
    obtain ⟨g1, g2, hr⟩ := hr
    have h1 := FE_tr f1 g1
    have h2 := FE_tr f2 g2
    rw [if_neg (by decide)] at hr
    rcases hr with ⟨w2, hw2, hK⟩ | ⟨z1, z2⟩
    case inr =>
      refine T2_ite ⟨fun z => absurd z (EZ_e z1), fun z => absurd z (EZ_e z2)⟩ (fun z _ => absurd z (EZ_e z1)) (fun _ _ => ?_)
      refine T2_suc (fun n => by rw [x_assignTo]) (fun n => by rw [x_assignTo]) ?_
      show T2 (fun q => x_assignTo q 4 _ (mSc r1.2 59 (nI (kys T ch k) + 1))) (fun q => x_assignTo q 4 _ (mSc r2.2 59 (nI (kys T ch k) + 1))) _
      rw [n_add1]
      exact fourZ _ _ _ _ 0 (FE_tr h1 (FE_sc (by omega))) (FE_tr h2 (FE_sc (by omega))) a1 b1 (EZ_mo (EZ_dn (c := kys T ch k + 1) z1 (by omega) (by omega)) (by omega) (by omega)) (EZ_mo (EZ_dn (c := kys T ch k + 1) z2 (by omega) (by omega)) (by omega) (by omega))
    obtain ⟨x1, x2⟩ := EI_e hK
    rw [x1, x2]
    refine T2_ite Iff.rfl (fun _ _ => ?_) (fun z _ => absurd rfl z)
    refine T2_ob (E_sw (by omega) (by omega) hK) (fun v1 v2 hv => ?_)
    obtain ⟨k1, k2, gA, lA, BA, hA, XA, gB, lB, BB, hB', XB, hX', rm1, rm2⟩ := hv
    have ff1 := FE_tr h1 k1
    have ff2 := FE_tr h2 k2
    have hX0 := hX'
    obtain ⟨m1, m2, aR, j1, j2, u1, o1, o2, _, _, _, _, ⟨ty1, ty2⟩, a95, z1, z2⟩ := hX'
    have u2 : v2.2.1 59 = nI (kys T ch k + 1 + 1 + k) := (aR.2.2.1 59 (by unfold AlS; omega)).symm.trans u1
    have et : nI (kys T ch k + 1 + 1 + k) - 1 = nI (kys T ch k + 1 + k) := (n_sub (p := kys T ch k + 1 + 1 + k) (q := 1) (by omega) (by omega)).trans (by rw [show kys T ch k + 1 + 1 + k - 1 = kys T ch k + 1 + k by omega])
    rw [u1, u2, et]
    refine T2_chk (n_in3 (by omega) (by omega)) (n_in3 (by omega) (by omega)) ?_
    refine T2_chk (n_in (by omega) (by omega)) (n_in (by omega) (by omega)) ?_
    refine T2_chk (n_in (by omega) (by omega)) (n_in (by omega) (by omega)) ?_
    rw [n_cl (p := kys T ch k + 1 + k) (by omega), n_cl (p := kys T ch k) (by omega), (tb _ _ ff1 ff2 7 _ (by omega) (by omega) (by omega)).1, (tb _ _ ff1 ff2 7 _ (by omega) (by omega) (by omega)).2]
    have P1 : VP gA lA BA hA (kys T ch k + 1 + 1 + k) v1.2 := ⟨m1.1, u1, by omega, ⟨0, o1, by decide⟩⟩
    have P2 : VP gB lB BB hB' (kys T ch k + 1 + 1 + k) v2.2 := ⟨m2.1, u2, by omega, ⟨0, o2, by decide⟩⟩
    obtain ⟨va, vb, va1, va2, va3, va4, va5, va6, va7⟩ := aR.1 29 (kys T ch k + 1 + k) (Or.inl ⟨rfl, by omega⟩) (by unfold VwR; omega)
    obtain ⟨vc, vd, vc1, vc2, vc3, vc4, vc5, vc6, vc7⟩ := aR.1 29 (kys T ch k) (Or.inl ⟨rfl, by omega⟩) (by unfold VwR; omega)
    rw [va1, va3, vc1, vc3]
    refine T2_ob (E_op hX0 (s_operate P1 va2 vc2 rfl rfl) (s_operate P2 va4 vc4 rfl rfl) (fun n => k_operate m1.1 m2.1 o1 o2 u1 u2 (by omega) (by omega) (by omega) va2 va4 va5 vc2 vc4 vc5 rfl rfl rfl rfl rfl (fun i hi => ?_)) (fun k => wl_operate k _ _ _) (fun k => wl_operate k _ _ _) (c := 8600) (by omega)) (fun s1 s2 hs => ?_)
    · rw [upd_other (by omega), upd_other (by omega), upd_other (by omega), upd_other (by omega), upd_other (by omega), upd_other (by omega)]
    obtain ⟨s1', s2', s3, s4, s5⟩ := hs
    have eT : kys T ch k + 1 + 1 + k = (kys T ch k + 1 + k) + 1 := by omega
    rw [eT] at m1 m2 aR s1' s2'
    refine E_anD (i := kys T ch k) m1 m2 aR j1 j2 (by omega) (by omega) ty1 ty2 ⟨a95, s4.trans z1, z2⟩ (s4.trans ((aR.2.2.1 95 (by unfold AlS; omega)).trans s5.symm)) s1' s2' s3 (fun y1 y2 p1 p2 hy => ?_)
    refine T2_chk (n_in3 (by omega) (by omega)) (n_in3 (by omega) (by omega)) ?_
    refine T2_suc (fun n => by rw [x_assignTo]) (fun n => by rw [x_assignTo]) ?_
    show T2 (fun q => x_assignTo q 4 _ (mSc (mAr y1.2 29 (kys T ch k) y1.1) 59 (nI (kys T ch k) + 1))) (fun q => x_assignTo q 4 _ (mSc (mAr y2.2 29 (kys T ch k) y2.1) 59 (nI (kys T ch k) + 1))) _
    rw [n_add1]
    show T2 (fun q => x_assignTo q 4 _ (mPu y1.2 (kys T ch k) y1.1)) (fun q => x_assignTo q 4 _ (mPu y2.2 (kys T ch k) y2.1)) _
    rcases hy with ⟨w3, hw3, hy⟩ | ⟨y3, y4⟩
    · exact four w3 _ _ _ _ (by omega) (FE_tr ff1 p1) (FE_tr ff2 p2) hy a1 b1 a2 b2 a3 b3 rfl rfl
    · exact fourZ _ _ _ _ 0 (FE_tr ff1 p1) (FE_tr ff2 p2) a1 b1 (EZ_mo y3 (by omega) (by omega)) (EZ_mo y4 (by omega) (by omega))
  refine T2_suc (fun n => by rw [x_assignTo]) (fun n => by rw [x_assignTo]) ?_
  rw [d1, d2]
  refine T2_chk (n_in (by omega) (by omega)) (n_in (by omega) (by omega)) ?_
  rw [n_cl (p := n) (by omega), hS.1.1.1 5 _ (by omega) (by omega) (by omega), hS2.1.1.1 5 _ (by omega) (by omega) (by omega), x5, t1, t2]
  refine T2_ob (E_workParts hXC h (by omega) hS.1 hI rfl rfl) (fun r1 r2 hr => ?_)
  obtain ⟨f1, f2, hr⟩ := hr
  rw [Nat.zero_add] at hr
  rcases hr with ⟨w2, hw2, hJ⟩ | ⟨z1, z2⟩
  · obtain ⟨e1, e2⟩ := EI_e hJ
    rw [e1, e2]
    refine T2_ite Iff.rfl (fun _ _ => ?_) (fun z _ => absurd rfl z)
    refine T2_chk (n_in3 (by omega) (by omega)) (n_in3 (by omega) (by omega)) ?_
    rw [(tb _ _ f1 f2 6 _ (by omega) (by omega) (by omega)).1, (tb _ _ f1 f2 6 _ (by omega) (by omega) (by omega)).2]
    refine T2_ob (E_eval hXC (by omega) (Sc0_fe hS.1 f1) x6 hJ rfl rfl) (fun s1 s2 hs => ?_)
    obtain ⟨g1, g2, hs⟩ := hs
    rcases hs with ⟨w3, hw3, hK⟩ | ⟨z1, z2⟩
    · exact one w3 _ _ _ _ (by omega) (FE_tr f1 g1) (FE_tr f2 g2) hK d1 d2 rfl rfl rfl rfl
    · exact oneZ _ _ _ _ (FE_tr f1 g1) (FE_tr f2 g2) (EZ_mo z1 (by omega) (by omega)) (EZ_mo z2 (by omega) (by omega))
  · refine T2_ite ⟨fun z => absurd z (EZ_e z1), fun z => absurd z (EZ_e z2)⟩ (fun z _ => absurd z (EZ_e z1)) (fun _ _ => ?_)
    exact oneZ _ _ _ _ f1 f2 (EZ_mo z1 (by omega) (by omega)) (EZ_mo z2 (by omega) (by omega))
end WWK
end JnS244
section JnS245
/-! Statements on both sides (reference): a call gives back: its fors are closed, its frame is left. -/
theorem suN_blk {f g : Nat → Nat} {a : Nat} : ∀ {n : Nat}, a + 60 ≤ n → (∀ j, j < n → ¬ (a ≤ j ∧ j < a + 60) → f j = g j) → (∀ j, a ≤ j → j < a + 60 → g j = 0) → suN f n = suN g n + suN (fun j => f (a + j)) 60 := by
  have inn : ∀ (d : Nat), d ≤ 60 → (∀ j, j < a → f j = g j) → (∀ j, a ≤ j → j < a + 60 → g j = 0) → suN f (a + d) = suN g (a + d) + suN (fun j => f (a + j)) d := by
    intro d
    induction d with
    | zero => intro _ h _; show suN f a = suN g a + 0; rw [suN_c h]; omega
    | succ d ih =>
      intro hd h1 h2
      have := ih (by omega) h1 h2
      show suN f (a + d) + f (a + d) = suN g (a + d) + g (a + d) + (suN (fun j => f (a + j)) d + f (a + d))
      rw [this, h2 (a + d) (by omega) (by omega)]; omega
  intro n
  induction n with
  | zero => intro h; omega
  | succ n ih =>
    intro hn h1 h2
    by_cases e : a + 60 = n + 1
    · rw [← e]
      exact inn 60 (Nat.le_refl _) (fun j hj => h1 j (by omega) (by omega)) h2
    · have := ih (by omega) (fun j hj hh => h1 j (by omega) hh) h2
      show suN f n + f n = suN g n + g n + _
      rw [this, h1 n (by omega) (by omega)]; omega
section GBC
variable {T : Nat → Nat → Int32} {FN : Nat → Nat → Prop} {lc cn : Nat → Prop} {t w XC c : Nat} {F0 : List Nat} {σ1 σ2 : MS}
theorem suI_app {G F : List Nat} : suI T F ≤ suI T (G ++ F) := by
  induction G with
  | nil => exact Nat.le_refl _
  | cons m G ih => show suI T F ≤ itn T m + suI T (G ++ F); omega
theorem FSk_tl {A : Nat → Int32} {m : Nat} {F : List Nat} (h : FSk T A (m :: F)) : FSk T A F := h.2
/-- all fors of a call are closed -/
theorem E_gbClose {l2 : Nat} (hl2 : l2 < 50) {N1 N2 : Nat → Int32} (n2 : N1 2 = nI l2) (o2 : N2 2 = nI l2) {Q : Int32 × MS → Int32 × MS → Prop} (hS : Sc1 T FN lc cn σ1) (hS2 : Sc1 T FN lc cn σ2) (h1c : σ1.2.2 30 1 = nI (l2 + 1)) (h66 : σ1.2.2 30 (66 + 3 * l2) = nI F0.length) (hQ : ∀ (τ1 τ2 : MS), EI t w XC τ1 τ2 → UT τ1 → UT τ2 → FCt (fun i => i = 2 ∨ i = 3) σ1 τ1 → FCt (fun i => i = 2 ∨ i = 3) σ2 τ2 → τ1.2.2 30 2 = nI F0.length → τ1.2.2 30 3 = nI (suI T F0) → ItS τ1 (suI T F0) → T2 (fun k => x_giveBack k 2 N1 τ1) (fun k => x_giveBack k 2 N2 τ2) Q) : ∀ (G : List Nat) (τ1 τ2 : MS), (G ++ F0).length ≤ 1050 → suI T (G ++ F0) ≤ 3100 → (∀ m ∈ G, ∃ kk, ItL T FN lc cn kk (T 5 m)) → EI t w XC τ1 τ2 → UT τ1 → UT τ2 → FCt (fun i => i = 2 ∨ i = 3) σ1 τ1 → FCt (fun i => i = 2 ∨ i = 3) σ2 τ2 → τ1.2.2 30 2 = nI (G ++ F0).length → FSk T (τ1.2.2 30) (G ++ F0) → τ1.2.2 30 3 = nI (suI T (G ++ F0)) → ItS τ1 (suI T (G ++ F0)) → T2 (fun k => x_giveBack k 1 N1 τ1) (fun k => x_giveBack k 1 N2 τ2) Q := by
  intro G
  have e66 : (64 : Int32) + 3 * nI l2 + 2 = nI (66 + 3 * l2) := by
    rw [show (3 : Int32) * nI l2 = nI (3 * l2) from n_mulN 3 l2, show (64 : Int32) + nI (3 * l2) = nI (64 + 3 * l2) from n_add (p := 64) (by omega), show nI (64 + 3 * l2) + 2 = nI (64 + 3 * l2 + 2) from n_add (q := 2) (by omega)]
    congr 1; omega
  induction G with
  | nil =>
    intro τ1 τ2 hl hs hG hJ V1 V2 f1 f2 p2 pF p3 pit
    have hl : F0.length ≤ 1050 := hl
    have p2 : τ1.2.2 30 2 = nI F0.length := p2
    refine T2_suc (fun k => by rw [x_giveBack]) (fun k => by rw [x_giveBack]) ?_
    refine T2_chk (by decide) (by decide) ?_
    rw [n2, o2, e66]
    refine T2_chk (n_in (by omega) (by omega)) (n_in (by omega) (by omega)) ?_
    rw [show (2 : Int32).toNatClampNeg = 2 from by decide, n_cl (p := 66 + 3 * l2) (by omega), EI_30 hJ (i := 2) (by unfold Zn; omega) (InA_4 (by omega)), EI_30 hJ (i := 66 + 3 * l2) (by unfold Zn; omega) (InA_cl ((FC_30 f1 (i := 1) (by unfold Zn; omega) (by omega)).trans h1c) (by omega) (by omega)), p2, FC_30 f1 (i := 66 + 3 * l2) (by unfold Zn; omega) (by omega), h66]
    refine T2_ite Iff.rfl (fun _ _ => ?_) (fun z _ => absurd (Int32.le_refl _) z)
    exact hQ τ1 τ2 hJ V1 V2 f1 f2 p2 p3 pit
  | cons m G ih =>
    intro τ1 τ2 hl hs hG hJ V1 V2 f1 f2 p2 pF p3 pit
    have hl : (G ++ F0).length + 1 ≤ 1050 := hl
    have gl : F0.length ≤ (G ++ F0).length := by rw [List.length_append]; omega
    have p2 : τ1.2.2 30 2 = nI ((G ++ F0).length + 1) := p2
    have hs' : itn T m + suI T (G ++ F0) ≤ 3100 := hs
    refine T2_suc (fun k => by rw [x_giveBack]) (fun k => by rw [x_giveBack]) ?_
    refine T2_chk (by decide) (by decide) ?_
    rw [n2, o2, e66]
    refine T2_chk (n_in (by omega) (by omega)) (n_in (by omega) (by omega)) ?_
    rw [show (2 : Int32).toNatClampNeg = 2 from by decide, n_cl (p := 66 + 3 * l2) (by omega), EI_30 hJ (i := 2) (by unfold Zn; omega) (InA_4 (by omega)), EI_30 hJ (i := 66 + 3 * l2) (by unfold Zn; omega) (InA_cl ((FC_30 f1 (i := 1) (by unfold Zn; omega) (by omega)).trans h1c) (by omega) (by omega)), p2, FC_30 f1 (i := 66 + 3 * l2) (by unfold Zn; omega) (by omega), h66]
    refine T2_ite Iff.rfl (fun z _ => ?_) (fun _ _ => ?_)
    · have := (n_le (by omega) (by omega)).mp z
      omega
    obtain ⟨kk, hL⟩ := hG m (List.mem_cons_self ..)
    refine T2_ob (E_closeFor (m := m) (F := G ++ F0) (q := itn T m + suI T (G ++ F0)) (Sc1_fc hS f1 (fun i hi => by unfold Ict; omega)) hJ V1 V2 hl p2 pF p3 (by omega) hL) (fun r1 r2 hr => ?_)
    obtain ⟨c1, c2, c3, c4, c5, c6, c7, c8⟩ := hr
    exact ih r1.2 r2.2 (by omega) (by omega) (fun m hm => hG m (List.mem_cons_of_mem _ hm)) c1 c2 c3 (FC_tr f1 c4) (FC_tr f2 c5) c6 (FSk_c (by omega) (fun i h1 h2 => FC_30 c4 (by unfold Zn; omega) (by omega)) pF.2) c7 (c8 (ItS_mo pit (show suI T (G ++ F0) ≤ itn T m + suI T (G ++ F0) by omega)))
end GBC
end JnS245
