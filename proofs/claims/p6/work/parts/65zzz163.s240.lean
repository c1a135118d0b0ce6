/-! Statements on both sides (reference): what a step of an iterator gives, names are written. -/
section SVA
variable {T : Nat → Nat → Int32} {FN : Nat → Nat → Prop} {lc cn : Nat → Prop} {t w XC : Nat} {σ σ1 σ2 : MS}
/-- a member of a row that lies at a place -/
theorem Rt_val {g1 g2 : Nat → Prop} {l1 l2 : List Nat} {B1 h1 X1 B2 h2 X2 a0 i0 v1 v2 k p : Nat} (hX : EIx t w XC σ1 σ2 g1 l1 B1 h1 X1 g2 l2 B2 h2 X2) (rt1 : RtP t σ1 a0 i0) (hvw : ¬ VwR a0) (a1 : σ1.2.2 a0 i0 = nI v1) (a2 : σ2.2.2 a0 i0 = nI v2) (b1 : v1 < 1740000) (b2 : v2 < 1740000) (k5 : 5 ≤ kdN (σ1.2.2 28) v1) (hp : σ1.2.2 28 (v1 + 1) = nI p) (hp2 : p ≤ 3996) (hk : k < p) :
    ∃ a b, σ1.2.2 28 (v1 + 4 + k) = nI a ∧ σ2.2.2 28 (v2 + 4 + k) = nI b ∧ (a < 3 ∨ g1 a) ∧ (b < 3 ∨ g2 b) ∧ EVb (σ1.2.2 28) (σ2.2.2 28) a b ∧ VC g1 g2 (σ1.2.2 28) (σ2.2.2 28) (nI a) (nI b) ∧ (a < 3 ∨ Rch (σ1.2.2 28) (RoS t σ1) a) ∧ (b < 3 ∨ Rch (σ2.2.2 28) (RoS t σ2) b) ∧ (kdN (σ1.2.2 28) a = 5 → ∃ q, σ1.2.2 28 (a + 1) = nI q ∧ σ2.2.2 28 (b + 1) = nI q ∧ q ≤ 3996 ∧ a + 4 + q ≤ 1740000 ∧ b + 4 + q ≤ 1740000 ∧ ∀ i, i < q → VC g1 g2 (σ1.2.2 28) (σ2.2.2 28) (σ1.2.2 28 (a + 4 + i)) (σ2.2.2 28 (b + 4 + i)) ∧ (∃ m, σ1.2.2 28 (a + 4 + i) = nI m ∧ (m < 3 ∨ Rch (σ1.2.2 28) (RoS t σ1) m)) ∧ ∃ m, σ2.2.2 28 (b + 4 + i) = nI m ∧ (m < 3 ∨ Rch (σ2.2.2 28) (RoS t σ2) m)) := by
  obtain ⟨m1, m2, hR, _⟩ := hX
  have rt2 := (RA_rt m1.2.1 hR t a0 i0).mpr rt1
  obtain ⟨x1, x2, y1, y2, y3, y4, y5, y6, y7⟩ := hR.1 a0 i0 rt1 hvw
  have ex1 : x1 = v1 := (n_eq (by omega) (by omega)).mp (y1.symm.trans a1)
  have ex2 : x2 = v2 := (n_eq (by omega) (by omega)).mp (y3.symm.trans a2)
  subst ex1
  subst ex2
  obtain ⟨kk, p', hO⟩ := OE_of m1.1 m2.1 (kdN_ge m1.1 y2 (by omega)) y4 y5
  obtain ⟨gv1, gv2, o3, o4, o5, o6, o7, o8, o9, o10, o11, o12, o13, o14, o15, o16, o17⟩ := hO
  have ep : p' = p := (n_eq (by omega) (by omega)).mp (o11.symm.trans hp)
  subst ep
  obtain ⟨a, b, c1, c2, c3, c4, c5, c6, c7⟩ := o16 (by omega) k hk
  have r1 : Rch (σ1.2.2 28) (RoS t σ1) x1 := Rch_b ⟨o3, by omega, a0, i0, rt1, a1⟩
  have r2 : Rch (σ2.2.2 28) (RoS t σ2) x2 := Rch_b ⟨o4, by omega, a0, i0, rt2, a2⟩
  have ra := Rch_mem m1.1 r1 k5 gv1 o11 o6 hk c1 c2
  have rb := Rch_mem m2.1 r2 (by rw [o8]; omega) gv2 o12 o6 hk c3 c4
  refine ⟨a, b, c1, c3, c2, c4, c5, ⟨a, b, rfl, c2, rfl, c4, c5, c6, c7⟩, ra, rb, fun ka => ?_⟩
  have ga := kdN_ge m1.1 c2 (by omega)
  have gb := kdN_ge m2.1 c4 (by rw [(EVb_sz c5).2.2]; omega)
  obtain ⟨kq, q, hQ⟩ := OE_of m1.1 m2.1 ga c4 c5
  obtain ⟨_, _, q3, q4, q5, q6, q7, q8, q9, q10, q11, q12, q13, q14, q15, q16, q17⟩ := hQ
  refine ⟨q, q11, q12, q6, q13, q14, fun i hi => ?_⟩
  obtain ⟨c, d', s1, s2, s3, s4, s5, s6, s7⟩ := q16 (by omega) i hi
  refine ⟨⟨c, d', s1, s2, s3, s4, s5, s6, s7⟩, ⟨c, s1, ?_⟩, ⟨d', s3, ?_⟩⟩
  · exact Rch_mem m1.1 (ra.resolve_left (by omega)) (by omega) ga q11 q6 hi s1 s2
  · exact Rch_mem m2.1 (rb.resolve_left (by omega)) (by omega) gb q12 q6 hi s3 s4
theorem EIx_64 {g1 g2 : Nat → Prop} {l1 l2 : List Nat} {B1 h1 X1 B2 h2 X2 : Nat} {z : Int32} (hX : EIx t w XC σ1 σ2 g1 l1 B1 h1 X1 g2 l2 B2 h2 X2) : EIx t w XC (mSc σ1 64 z) (mSc σ2 64 z) g1 l1 B1 h1 X1 g2 l2 B2 h2 X2 := by
  obtain ⟨m1, m2, hR, i1, i2, t1, e1, e2, w1, hw, x1, x2, ty, a, a1, a2⟩ := hX
  refine ⟨MI_c m1 rfl rfl rfl rfl rfl, MI_c m2 rfl rfl rfl rfl rfl, RA_c hR rfl rfl rfl rfl rfl rfl rfl rfl (fun j hj => ?_) hR.2.2.2, IT_c rfl rfl rfl rfl i1, IT_c rfl rfl rfl rfl i2, t1, e1, e2, w1, hw, x1, x2, ty, a, a1, a2⟩
  show upd σ1.1 64 z j = upd σ2.1 64 z j
  by_cases e : j = 64
  · rw [e, upd_same, upd_same]
  · rw [upd_other e, upd_other e]; exact hR.2.2.1 j hj
/-- a new character is written -/
theorem E_asgL {g1 g2 : Nat → Prop} {l1 l2 : List Nat} {B1 h1 X1 B2 h2 X2 n s m1 m2 : Nat} (hXC : XC ≤ 402000) (hS : Sc1 T FN lc cn σ1) (hX : EIx t w XC σ1 σ2 g1 l1 B1 h1 X1 g2 l2 B2 h2 X2) (U1 : UT σ1) (U2 : UT σ2) (hn : NmW T lc cn n s) (y1 : X1 + 5 ≤ XC + 6 * w) (y2 : X2 + 5 ≤ XC + 6 * w) (gm1 : g1 m1) (gm2 : g2 m2) (vc : VC g1 g2 (σ1.2.2 28) (σ2.2.2 28) (nI m1) (nI m2)) (ka : σ1.2.2 28 m1 = nI 4) (kb : σ2.2.2 28 m2 = nI 4) (la : σ1.2.2 28 (m1 + 1) = nI 1) (lb : σ2.2.2 28 (m2 + 1) = nI 1) {L1 L2 : Nat → Int32} (d1 : L1 1 = nI n) (d2 : L2 1 = nI n) (x1 : L1 2 = nI m1) (x2 : L2 2 = nI m2) : T2 (fun k => x_assign k 0 L1 σ1) (fun k => x_assign k 0 L2 σ2) (fun r1 r2 => SQ t t w XC σ1 σ2 r1.2 r2.2) := by
  have leaf : ∀ {x : Int32}, x = nI 4 → ¬ (x = nI 5 ∨ x = nI 6) := fun h => by rw [h]; decide
  refine T2_mono (E_asg0 hXC hS hX U1 U2 hn vc (fun z i pl => ?_) d1 d2 x1 x2) (fun r1 r2 hr => hr.1)
  have hE := EIx_64 (z := z) hX
  exact EI_bdG hE pl (MI_bdL hE.1 pl gm1 (leaf ka) la) (MI_bdL hE.2.1 pl gm2 (leaf kb) lb) vc y1 y2
theorem s_asgZ {τ : MS} (he : ¬ τ.1 56 ≤ 0) {L : Nat → Int32} : Tm (fun n => x_assign n 0 L τ) (fun r => r = (0, τ)) := by
  refine Tm_suc (fun n => by rw [x_assign]) ?_
  exact Tm_ite (fun z => absurd z he) (fun _ => Tm_some rfl)
/-- names of an iterator are counted -/
theorem sf_7 {Q : Int32 × MS → Prop} (hT : ∀ a i, 4 ≤ a → a ≤ 11 → ((a ≤ 9 → (1 ≤ i ∧ i < LNo T % 70001)) ∧ (10 ≤ a → i < SNo T % 402)) → σ.2.2 a i = T a i) : ∀ (q j : Nat) (x : Int32) (N : Nat → Int32), q + j ≤ 1000 → NmL T lc cn q x → N 6 = nI j → N 7 = x → (∀ M : Nat → Int32, M 6 = nI (q + j) → (∀ i, i ≠ 6 → i ≠ 7 → M i = N i) → Tm (fun k => x_stepFor k 8 M σ) Q) → Tm (fun k => x_stepFor k 7 N σ) Q := by
  intro q
  induction q with
  | zero =>
    intro j x N hj hL n6 n7 hQ
    have hL : x = -1 := hL
    refine Tm_suc (fun k => by rw [x_stepFor]) ?_
    rw [n7, hL]
    refine Tm_ite (fun _ => ?_) (fun z => absurd rfl z)
    exact hQ N (by rw [Nat.zero_add]; exact n6) (fun _ _ _ => rfl)
  | succ q ih =>
    intro j x N hj hL n6 n7 hQ
    obtain ⟨a, s, xa, hn, hL⟩ := hL
    have ha := hn.1
    refine Tm_suc (fun k => by rw [x_stepFor]) ?_
    rw [n7, n6, xa]
    refine Tm_ite (fun z => absurd z (ne_m1 ha)) (fun _ => ?_)
    refine Tm_chk (n_in (by omega) (by omega)) ?_
    rw [n_cl (p := a) (by omega), hT 9 _ (by omega) (by omega) (by omega), n_add1]
    refine ih (j + 1) (T 9 a) _ (by omega) hL rfl rfl (fun M m6 mo => hQ M (by rw [m6]; congr 1; omega) (fun i h1 h2 => ?_))
    rw [mo i h1 h2, upd_other h2, upd_other h1]
/-- behind the writing of names -/
def NWq (t w XC : Nat) (σ1 σ2 : MS) (r1 r2 : Int32 × MS) : Prop := r1.1 = r2.1 ∧ FSt σ1 r1.2 ∧ FSt σ2 r2.2 ∧ UT r1.2 ∧ UT r2.2 ∧ ((r1.1 = 1 ∧ ∃ w', w ≤ w' ∧ EI t w' XC r1.2 r2.2) ∨ (r1.1 = 0 ∧ EZ t t r1.2 ∧ EZ t t r2.2))
theorem sf_14 {σ0 σ0' : MS} {N1 N2 : Nat → Int32} {τ1 τ2 : MS} (f1 : FSt σ0 τ1) (f2 : FSt σ0' τ2) (V1 : UT τ1) (V2 : UT τ2) (h : (∃ w', w ≤ w' ∧ EI t w' XC τ1 τ2) ∨ (EZ t t τ1 ∧ EZ t t τ2)) : T2 (fun k => x_stepFor k 14 N1 τ1) (fun k => x_stepFor k 14 N2 τ2) (NWq t w XC σ0 σ0') := by
  refine T2_suc (fun k => by rw [x_stepFor]) (fun k => by rw [x_stepFor]) ?_
  rcases h with ⟨w', hw, hJ⟩ | ⟨z1, z2⟩
  · obtain ⟨e1, e2⟩ := EI_e hJ
    rw [e1, e2]
    refine T2_ite Iff.rfl (fun _ _ => ?_) (fun z _ => absurd rfl z)
    refine T2_suc (fun k => by rw [x_stepFor]) (fun k => by rw [x_stepFor]) ?_
    exact T2_chk (Or.inr rfl) (Or.inr rfl) (T2_some ⟨rfl, f1, f2, V1, V2, Or.inl ⟨rfl, w', hw, hJ⟩⟩)
  · refine T2_ite ⟨fun z => absurd z (EZ_e z1), fun z => absurd z (EZ_e z2)⟩ (fun z _ => absurd z (EZ_e z1)) (fun _ _ => ?_)
    refine T2_suc (fun k => by rw [x_stepFor]) (fun k => by rw [x_stepFor]) ?_
    refine T2_suc (fun k => by rw [x_stepFor]) (fun k => by rw [x_stepFor]) ?_
    exact T2_chk (Or.inl rfl) (Or.inl rfl) (T2_some ⟨rfl, f1, f2, V1, V2, Or.inr ⟨rfl, z1, z2⟩⟩)
/-- with an error: the rest of the names is left -/
theorem sf_11z {b : Nat} {τ : MS} (hT : ∀ a i, 4 ≤ a → a ≤ 11 → ((a ≤ 9 → (1 ≤ i ∧ i < LNo T % 70001)) ∧ (10 ≤ a → i < SNo T % 402)) → τ.2.2 a i = T a i) (he : ¬ τ.1 56 ≤ 0) {a qa : Nat} (h28 : τ.2.2 28 (a + 1) = nI qa) (hqa : a + 4 + qa ≤ 1740000 ∧ qa ≤ 3996) : ∀ (q j : Nat) (x : Int32) (N : Nat → Int32), q + j ≤ 1000 → NmL T lc cn q x → N 5 = nI a → N 7 = nI j → N 8 = x → Tm (fun k => x_stepFor k 11 N τ) (fun r => r = (0, τ)) := by
  intro q
  induction q with
  | zero =>
    intro j x N hj hL n5 n7 n8
    have hL : x = -1 := hL
    refine Tm_suc (fun k => by rw [x_stepFor]) ?_
    rw [n8, hL]
    refine Tm_ite (fun _ => ?_) (fun z => absurd rfl z)
    refine Tm_suc (fun k => by rw [x_stepFor]) ?_
    refine Tm_ite (fun z => absurd (by rw [z]; decide) he) (fun _ => ?_)
    refine Tm_suc (fun k => by rw [x_stepFor]) ?_
    refine Tm_suc (fun k => by rw [x_stepFor]) ?_
    exact Tm_chk (Or.inl rfl) (Tm_some rfl)
  | succ q ih =>
    intro j x N hj hL n5 n7 n8
    obtain ⟨c, s, xa, hn, hL⟩ := hL
    have ha := hn.1
    have go : ∀ M : Nat → Int32, M 5 = nI a → M 7 = nI j → M 8 = nI c → Tm (fun k => x_stepFor k 13 M τ) (fun r => r = (0, τ)) := fun M m5 m7 m8 => by
      refine Tm_suc (fun k => by rw [x_stepFor]) ?_
      refine Tm_ob (s_asgZ he) (fun r hr => ?_)
      rw [hr, m7, m8, n_add1]
      refine Tm_chk (n_in (by omega) (by omega)) ?_
      show Tm (fun k => x_stepFor k 11 (upd (upd M 7 (nI (j + 1))) 8 (τ.2.2 9 (nI c).toNatClampNeg)) τ) _
      rw [n_cl (p := c) (by omega), hT 9 _ (by omega) (by omega) (by omega)]
      exact ih (j + 1) (T 9 c) _ (by omega) hL m5 rfl rfl
    refine Tm_suc (fun k => by rw [x_stepFor]) ?_
    rw [n8, n5, n7, xa, n_add1]
    refine Tm_ite (fun z => absurd z (ne_m1 ha)) (fun _ => ?_)
    refine Tm_chk (n_in (by omega) (by omega)) ?_
    rw [n_cl (p := a + 1) (by omega), h28]
    refine Tm_ite (fun _ => ?_) (fun z => ?_)
    · refine Tm_suc (fun k => by rw [x_stepFor]) ?_
      exact go _ n5 n7 (n8.trans xa)
    · have lt : j < qa := by
        by_cases y : qa ≤ j
        · exact absurd ((n_le (by omega) (by omega)).mpr y) z
        · omega
      rw [show nI a + 4 = nI (a + 4) from n_add (q := 4) (by omega), n_add (p := a + 4) (by omega)]
      refine Tm_chk (n_in (by omega) (by omega)) ?_
      exact go _ n5 n7 (n8.trans xa)
/-- names are written from a tuple -/
theorem sf_11 {σ0 σ0' : MS} {i0 v1 v2 k p a b qa : Nat} (hXC : XC ≤ 402000) (hi0 : 5314 ≤ i0) (bv1 : v1 < 1740000) (bv2 : v2 < 1740000) (hqa : a + 4 + qa ≤ 1740000 ∧ b + 4 + qa ≤ 1740000 ∧ qa ≤ 3996) (hp2 : p ≤ 3996) (hk : k < p) : ∀ (q j : Nat) (x : Int32) (N1 N2 : Nat → Int32) (τ1 τ2 : MS) (w' : Nat), w ≤ w' → q + j ≤ 1000 → NmL T lc cn q x → N1 5 = nI a → N2 5 = nI b → N1 7 = nI j → N2 7 = nI j → N1 8 = x → N2 8 = x → Sc1 T FN lc cn τ1 → FSt σ0 τ1 → FSt σ0' τ2 → UT τ1 → UT τ2 → EI t w' XC τ1 τ2 → RtP t τ1 30 i0 → τ1.2.2 30 i0 = nI v1 → τ2.2.2 30 i0 = nI v2 → 5 ≤ kdN (τ1.2.2 28) v1 → τ1.2.2 28 (v1 + 1) = nI p → τ1.2.2 28 (v1 + 4 + k) = nI a → τ2.2.2 28 (v2 + 4 + k) = nI b → kdN (τ1.2.2 28) a = 5 → τ1.2.2 28 (a + 1) = nI qa → τ2.2.2 28 (b + 1) = nI qa → T2 (fun k => x_stepFor k 11 N1 τ1) (fun k => x_stepFor k 11 N2 τ2) (NWq t w XC σ0 σ0') := by
  intro q
  induction q with
  | zero =>
    intro j x N1 N2 τ1 τ2 w' hw hj hL n5 o5 n7 o7 n8 o8 hS f1 f2 V1 V2 hJ rt c1 c2 c3 c4 c5 c6 c7 c8 c9
    have hL : x = -1 := hL
    refine T2_suc (fun k => by rw [x_stepFor]) (fun k => by rw [x_stepFor]) ?_
    rw [n8, o8, hL]
    refine T2_ite Iff.rfl (fun _ _ => ?_) (fun z _ => absurd rfl z)
    exact sf_14 f1 f2 V1 V2 (Or.inl ⟨w', hw, hJ⟩)
  | succ q ih =>
    intro j x N1 N2 τ1 τ2 w' hw hj hL n5 o5 n7 o7 n8 o8 hS f1 f2 V1 V2 hJ rt c1 c2 c3 c4 c5 c6 c7 c8 c9
    obtain ⟨c, s, xa, hn, hL⟩ := hL
    have ha := hn.1
    have hS2 := Sc1_ei hS hJ
    have val : ∀ (g1 : Nat → Prop) (l1 : List Nat) (B1 h1 X1 : Nat) (g2 : Nat → Prop) (l2 : List Nat) (B2 h2 X2 : Nat), EIx t w' XC τ1 τ2 g1 l1 B1 h1 X1 g2 l2 B2 h2 X2 → ∀ i, i < qa → VC g1 g2 (τ1.2.2 28) (τ2.2.2 28) (τ1.2.2 28 (a + 4 + i)) (τ2.2.2 28 (b + 4 + i)) ∧ (∃ m, τ1.2.2 28 (a + 4 + i) = nI m ∧ (m < 3 ∨ Rch (τ1.2.2 28) (RoS t τ1) m)) ∧ ∃ m, τ2.2.2 28 (b + 4 + i) = nI m ∧ (m < 3 ∨ Rch (τ2.2.2 28) (RoS t τ2) m) := by
      intro g1 l1 B1 h1 X1 g2 l2 B2 h2 X2 hE i hi
      obtain ⟨a', b', d1, d2, _, _, _, _, _, _, d9⟩ := Rt_val hE rt (by unfold VwR; omega) c1 c2 bv1 bv2 c3 c4 hp2 hk
      have bb := hE.1
      have ea : a' = a := by
        have := HS_vb hE.1.1 (by assumption)
        exact (n_eq (by omega) (by omega)).mp (d1.symm.trans c5)
      have eb : b' = b := by
        have := HS_vb hE.2.1.1 (by assumption)
        exact (n_eq (by omega) (by omega)).mp (d2.symm.trans c6)
      rw [ea, eb] at d9
      obtain ⟨q', s1, s2, s3, s4, s5, s6⟩ := d9 c7
      have eq : q' = qa := (n_eq (by omega) (by omega)).mp (s1.symm.trans c8)
      exact s6 i (by omega)
    have go : ∀ (y1 y2 : Int32) (M1 M2 : Nat → Int32), ((y1 = 0 ∧ y2 = 0) ∨ ∃ i, i < qa ∧ y1 = τ1.2.2 28 (a + 4 + i) ∧ y2 = τ2.2.2 28 (b + 4 + i)) → M1 100 = y1 → M2 100 = y2 → M1 101 = nI c → M2 101 = nI c → M1 5 = nI a → M2 5 = nI b → M1 7 = nI j → M2 7 = nI j → M1 8 = nI c → M2 8 = nI c → T2 (fun k => x_stepFor k 13 M1 τ1) (fun k => x_stepFor k 13 M2 τ2) (NWq t w XC σ0 σ0') := by
      intro y1 y2 M1 M2 hy m0 m0' m1 m1' m5 m5' m7 m7' m8 m8'
      refine T2_suc (fun k => by rw [x_stepFor]) (fun k => by rw [x_stepFor]) ?_
      rw [m0, m0', m1, m1']
      refine T2_ob (E_assX (x := y1) (y := y2) hXC hS hJ V1 V2 hn (fun g1 l1 B1 h1 X1 g2 l2 B2 h2 X2 hE => ?_) rfl rfl rfl rfl) (fun r1 r2 hr => ?_)
      · rcases hy with ⟨e1, e2⟩ | ⟨i, hi, e1, e2⟩
        · rw [e1, e2]; exact ⟨VC_00, ⟨0, rfl, Or.inl (by decide)⟩, ⟨0, rfl, Or.inl (by decide)⟩⟩
        · rw [e1, e2]; exact val g1 l1 B1 h1 X1 g2 l2 B2 h2 X2 hE i hi
      obtain ⟨⟨g1, g2, g3, g4, g5⟩, ⟨A1, A2⟩, A3, A4⟩ := hr
      rw [m7, m7', m8, m8', n_add1]
      refine T2_chk (n_in (by omega) (by omega)) (n_in (by omega) (by omega)) ?_
      rw [n_cl (p := c) (by omega), (Sc1_fs hS g1).1.1.1 9 _ (by omega) (by omega) (by omega), (Sc1_fs hS2 g2).1.1.1 9 _ (by omega) (by omega) (by omega)]
      have t28 : r1.2.2.2 28 = τ1.2.2 28 := A1 28 (by decide)
      have u28 : r2.2.2.2 28 = τ2.2.2 28 := A3 28 (by decide)
      rcases g5 with ⟨w2, hw2, hJ'⟩ | ⟨z1, z2⟩
      · refine ih (j + 1) (T 9 c) _ _ r1.2 r2.2 w2 (by omega) (by omega) hL m5 m5' rfl rfl rfl rfl (Sc1_fs hS g1) (FS_tr f1 g1) (FS_tr f2 g2) g3 g4 hJ' ?_ ?_ ?_ ?_ ?_ ?_ ?_ ?_ ?_ ?_
        · rcases rt with z | ⟨z, y⟩ | z
          · omega
          · exact Or.inr (Or.inl ⟨z, (StI_c (g1.2.1 30 1 (by unfold AlR; omega) (by unfold Zn; omega) (by omega)) (g1.2.1 30 3 (by unfold AlR; omega) (by unfold Zn; omega) (by omega))).mpr y⟩)
          · exact absurd z (by rintro (⟨z, _⟩ | z) <;> omega)
        · rw [A2 i0 (by omega)]; exact c1
        · rw [A4 i0 (by omega)]; exact c2
        · rw [t28]; exact c3
        · rw [t28]; exact c4
        · rw [t28]; exact c5
        · rw [u28]; exact c6
        · rw [t28]; exact c7
        · rw [t28]; exact c8
        · rw [u28]; exact c9
      · refine T2_mono (T2_t (sf_11z (b := 0) (τ := r1.2) (T := T) (Sc1_fs hS g1).1.1.1 (EZ_le z1) (a := a) (qa := qa) (by rw [t28]; exact c8) ⟨hqa.1, hqa.2.2⟩ q (j + 1) (T 9 c) _ (by omega) hL m5 rfl rfl) (sf_11z (b := 0) (τ := r2.2) (T := T) (Sc1_fs hS2 g2).1.1.1 (EZ_le z2) (a := b) (qa := qa) (by rw [u28]; exact c9) ⟨hqa.2.1, hqa.2.2⟩ q (j + 1) (T 9 c) _ (by omega) hL m5' rfl rfl)) (fun s1 s2 hs => ?_)
        rw [hs.1, hs.2]
        exact ⟨rfl, FS_tr f1 g1, FS_tr f2 g2, g3, g4, Or.inr ⟨rfl, z1, z2⟩⟩
    refine T2_suc (fun k => by rw [x_stepFor]) (fun k => by rw [x_stepFor]) ?_
    rw [n8, o8, n5, o5, n7, o7, xa, n_add1, n_add1]
    refine T2_ite Iff.rfl (fun z _ => absurd z (ne_m1 ha)) (fun _ _ => ?_)
    refine T2_chk (n_in (by omega) (by omega)) (n_in (by omega) (by omega)) ?_
    rw [n_cl (p := a + 1) (by omega), n_cl (p := b + 1) (by omega), c8, c9]
    refine T2_ite Iff.rfl (fun _ _ => ?_) (fun z _ => ?_)
    · refine T2_suc (fun k => by rw [x_stepFor]) (fun k => by rw [x_stepFor]) ?_
      exact go 0 0 _ _ (Or.inl ⟨rfl, rfl⟩) rfl rfl rfl rfl n5 o5 n7 o7 (n8.trans xa) (o8.trans xa)
    · have lt : j < qa := by
        by_cases y : qa ≤ j
        · exact absurd ((n_le (by omega) (by omega)).mpr y) z
        · omega
      rw [show nI a + 4 = nI (a + 4) from n_add (q := 4) (by omega), show nI b + 4 = nI (b + 4) from n_add (q := 4) (by omega), n_add (p := a + 4) (by omega), n_add (p := b + 4) (by omega)]
      refine T2_chk (n_in (by omega) (by omega)) (n_in (by omega) (by omega)) ?_
      rw [n_cl (p := a + 4 + j) (by omega), n_cl (p := b + 4 + j) (by omega)]
      exact go _ _ _ _ (Or.inr ⟨j, lt, rfl, rfl⟩) rfl rfl rfl rfl n5 o5 n7 o7 (n8.trans xa) (o8.trans xa)
end SVA
