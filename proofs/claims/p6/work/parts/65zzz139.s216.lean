/-! Evaluation on both sides (reference): what an iterator gives is bound. -/
section EBN
variable {T : Nat → Nat → Int32} {FN : Nat → Nat → Prop} {O r K d t u w XC : Nat} {lc : Nat → Prop} {σ σ1 σ2 τ τ1 τ2 ρ : MS}
theorem WN_6 {f q : Nat} {x : Int32} (h : WN T FN f 6 O q K lc x) : (q = 0 ∧ x = -1) ∨ ∃ m n s f', q = m + 1 ∧ x = nI n ∧ (1 ≤ n ∧ n < LNo T % 70001) ∧ T 6 n = nI s ∧ s < 60 ∧ ((T 5 n = 0 ∨ lc 0) ∧ lc (if T 5 n = 0 then 1 + s else 61 + s)) ∧ WN T FN f' 6 O m K lc (T 9 n) := by
  cases f with
  | zero => exact h.elim
  | succ f =>
    unfold WN at h
    rcases h with ⟨z, _⟩ | ⟨z, _⟩ | ⟨z, _⟩ | ⟨z, _⟩ | ⟨z, _⟩ | ⟨z, _⟩ | ⟨_, hor⟩
    case inl => exact absurd z (by decide)
    case inr.inl => exact absurd z (by decide)
    case inr.inr.inl => exact absurd z (by decide)
    case inr.inr.inr.inl => exact absurd z (by decide)
    case inr.inr.inr.inr.inl => exact absurd z (by decide)
    case inr.inr.inr.inr.inr.inl => exact absurd z (by decide)
    rcases hor with z | ⟨m, n, s, a1, a2, a3, a4, a5, a6, a7⟩
    · exact Or.inl z
    · exact Or.inr ⟨m, n, s, f, a1, a2, a3, a4, a5, a6, a7⟩
theorem n_neg {c : Nat} (h : (1 ≤ c ∧ c < LNo T % 70001)) : ¬ nI c = -1 := by
  intro z
  have : (nI c).toInt = (-1 : Int32).toInt := by rw [z]
  rw [n_int (by omega), show (-1 : Int32).toInt = -1 from by decide] at this
  omega
/-- n is a name of the list that begins at x -/
def Nin (T : Nat → Nat → Int32) : Nat → Int32 → Nat → Prop
  | 0, _, _ => False
  | q + 1, x, n => ∃ c, (1 ≤ c ∧ c < LNo T % 70001) ∧ x = nI c ∧ (n = c ∨ Nin T q (T 9 c) n)
/-- places of the names of a list -/
def NmP (T : Nat → Nat → Int32) (σ : MS) (x : Int32) (a i : Nat) : Prop := ∃ q n, Nin T q x n ∧ NPl T σ n a i
theorem NmP_1 {c a i : Nat} {x : Int32} (hc : (1 ≤ c ∧ c < LNo T % 70001)) (hx : x = nI c) : NmP T σ x a i ↔ (NPl T σ c a i ∨ NmP T σ (T 9 c) a i) := by
  constructor
  · rintro ⟨q, n, h, hp⟩
    cases q with
    | zero => exact h.elim
    | succ q =>
      obtain ⟨c', c1, c2, c3⟩ := h
      have e : c' = c := (n_eq (by omega) (by omega)).mp (c2.symm.trans hx)
      subst e
      rcases c3 with c3 | c3
      · subst c3; exact Or.inl hp
      · exact Or.inr ⟨q, n, c3, hp⟩
  · rintro (hp | ⟨q, n, h, hp⟩)
    · exact ⟨1, c, ⟨c, hc, hx, Or.inl rfl⟩, hp⟩
    · exact ⟨q + 1, n, ⟨c, hc, hx, Or.inr h⟩, hp⟩
theorem NmP_0 {a i : Nat} : ¬ NmP T σ (-1) a i := by
  rintro ⟨q, n, h, hp⟩
  cases q with
  | zero => exact h.elim
  | succ q =>
    obtain ⟨c', c1, c2, c3⟩ := h
    exact n_neg c1 c2.symm
theorem NmP_c {a i : Nat} {x : Int32} (h69 : τ.1 69 = σ.1 69) (h67 : τ.1 67 = σ.1 67) (h1 : τ.2.2 30 1 = σ.2.2 30 1) : NmP T τ x a i ↔ NmP T σ x a i := by
  unfold NmP
  constructor
  · rintro ⟨q, n, h, hp⟩; exact ⟨q, n, h, (NPl_c h69 h67 h1).mp hp⟩
  · rintro ⟨q, n, h, hp⟩; exact ⟨q, n, h, (NPl_c h69 h67 h1).mpr hp⟩
theorem NmP_fe {N : Nat → Nat → Prop} {a i : Nat} {x : Int32} (f : FEn N σ τ) : NmP T τ x a i ↔ NmP T σ x a i := NmP_c (f.1 69 (by unfold AlS; omega) (by decide) (by decide) (by decide)) (f.1 67 (by unfold AlS; omega) (by decide) (by decide) (by decide)) ((FEn_b f).2.2.1 1 (by unfold Zn; omega))
/-- behind a binding -/
def BdQ (N : Nat → Nat → Prop) (t w XC : Nat) (σ1 σ2 : MS) (r1 r2 : Int32 × MS) : Prop := FEn N σ1 r1.2 ∧ FEn N σ2 r2.2 ∧ (EI t w XC r1.2 r2.2 ∨ (EZ t t r1.2 ∧ EZ t t r2.2))
theorem E_bind {N : Nat → Nat → Prop} {n q f fu dp e i0 v1 v2 k p : Nat} (hXC : XC ≤ 408500) (hS1 : STb T FN σ1) (hI : EI t w XC σ1 σ2) (hC : Cx lc fu dp e σ1) (hn : (1 ≤ n ∧ n < LNo T % 70001)) (hq : 1 ≤ q ∧ q ≤ 70000) (hW : WN T FN f 6 O q K lc (T 6 n)) (hN : ∀ a i, NmP T σ1 (T 6 n) a i → N a i) (he : e ≤ 4000) (hi : i0 < e) (a1 : σ1.2.2 34 i0 = nI v1) (a2 : σ2.2.2 34 i0 = nI v2) (b1 : v1 < 1740000) (b2 : v2 < 1740000) (k5 : 5 ≤ kdN (σ1.2.2 28) v1) (hp : σ1.2.2 28 (v1 + 1) = nI p) (hp2 : p ≤ 3996) (hk : k < p) {L1 L2 : Nat → Int32} (d1 : L1 1 = nI n) (c1 : L2 1 = nI n) (d2 : L1 2 = σ1.2.2 28 (v1 + 4 + k)) (c2 : L2 2 = σ2.2.2 28 (v2 + 4 + k)) : T2 (fun k => x_bind k 0 L1 σ1) (fun k => x_bind k 0 L2 σ2) (BdQ N t w XC σ1 σ2) := by
  have hS2 := EI_ST hI hS1
  have h72 := hC.2.2.2.2.1
  have tb : ∀ (τ1 τ2 : MS), FEn N σ1 τ1 → FEn N σ2 τ2 → ∀ a i, 4 ≤ a → a ≤ 9 → (1 ≤ i ∧ i < LNo T % 70001) → τ1.2.2 a i = T a i ∧ τ2.2.2 a i = T a i := fun τ1 τ2 f1 f2 a i h1 h2 h3 => ⟨(STb_fe hS1 f1).1 a i h1 (by omega) ⟨fun _ => h3, fun z => by omega⟩, (STb_fe hS2 f2).1 a i h1 (by omega) ⟨fun _ => h3, fun z => by omega⟩⟩
  -- a state in which nothing but variables is other
  have val : ∀ (τ1 τ2 : MS), FEn N σ1 τ1 → FEn N σ2 τ2 → τ1.2.2 28 = σ1.2.2 28 → τ2.2.2 28 = σ2.2.2 28 → τ1.2.2 34 = σ1.2.2 34 → τ2.2.2 34 = σ2.2.2 34 → ∀ (g1 : Nat → Prop) (l1 : List Nat) (B1 h1 X1 : Nat) (g2 : Nat → Prop) (l2 : List Nat) (B2 h2 X2 : Nat), EIx t w XC τ1 τ2 g1 l1 B1 h1 X1 g2 l2 B2 h2 X2 → ∃ a b, σ1.2.2 28 (v1 + 4 + k) = nI a ∧ σ2.2.2 28 (v2 + 4 + k) = nI b ∧ (a < 3 ∨ g1 a) ∧ (b < 3 ∨ g2 b) ∧ EVb (τ1.2.2 28) (τ2.2.2 28) a b ∧ VC g1 g2 (τ1.2.2 28) (τ2.2.2 28) (nI a) (nI b) ∧ (a < 3 ∨ Rch (τ1.2.2 28) (RoS t τ1) a) ∧ (b < 3 ∨ Rch (τ2.2.2 28) (RoS t τ2) b) ∧ (kdN (τ1.2.2 28) a = 5 → ∃ q, τ1.2.2 28 (a + 1) = nI q ∧ τ2.2.2 28 (b + 1) = nI q ∧ q ≤ 3996 ∧ a + 4 + q ≤ 1740000 ∧ b + 4 + q ≤ 1740000 ∧ ∀ i, i < q → VC g1 g2 (τ1.2.2 28) (τ2.2.2 28) (τ1.2.2 28 (a + 4 + i)) (τ2.2.2 28 (b + 4 + i)) ∧ (∃ m, τ1.2.2 28 (a + 4 + i) = nI m ∧ (m < 3 ∨ Rch (τ1.2.2 28) (RoS t τ1) m)) ∧ ∃ m, τ2.2.2 28 (b + 4 + i) = nI m ∧ (m < 3 ∨ Rch (τ2.2.2 28) (RoS t τ2) m)) := by
    intro τ1 τ2 f1 f2 r1 r2 s1 s2 g1 l1 B1 h1 X1 g2 l2 B2 h2 X2 hX
    have := IT_val hX ((f1.1 72 (by unfold AlS; omega) (by decide) (by decide) (by decide)).trans h72) he hi (by rw [s1]; exact a1) (by rw [s2]; exact a2) b1 b2 (by rw [r1]; exact k5) (by rw [r1]; exact hp) hp2 hk
    obtain ⟨a, b, y1, y2, y3⟩ := this
    rw [r1] at y1
    rw [r2] at y2
    exact ⟨a, b, y1, y2, y3⟩
  obtain ⟨a, b, y1, y2, y3, y4, y5, y8⟩ : ∃ a b, σ1.2.2 28 (v1 + 4 + k) = nI a ∧ σ2.2.2 28 (v2 + 4 + k) = nI b ∧ a < 1740000 ∧ b < 1740000 ∧ EVb (σ1.2.2 28) (σ2.2.2 28) a b ∧ (kdN (σ1.2.2 28) a = 5 → ∃ q, σ1.2.2 28 (a + 1) = nI q ∧ σ2.2.2 28 (b + 1) = nI q ∧ q ≤ 3996 ∧ a + 4 + q ≤ 1740000 ∧ b + 4 + q ≤ 1740000) := by
    obtain ⟨g1, l1, B1, h1, X1, g2, l2, B2, h2, X2, hX⟩ := hI
    obtain ⟨a, b, z1, z2, z3, z4, z5, z6, z7, z8, z9⟩ := val σ1 σ2 FE_rf FE_rf rfl rfl rfl rfl g1 l1 B1 h1 X1 g2 l2 B2 h2 X2 hX
    refine ⟨a, b, z1, z2, HS_vb hX.1.1 z3, HS_vb hX.2.1.1 z4, z5, fun z => ?_⟩
    obtain ⟨q, x1, x2, x3, x4, x5, _⟩ := z9 z
    exact ⟨q, x1, x2, x3, x4, x5⟩
  rcases WN_6 hW with ⟨z, _⟩ | ⟨q', n1, s, f', eq, xn, hn1, x6, hs, x5, W9⟩
  · omega
  refine T2_suc (fun k => by rw [x_bind]) (fun k => by rw [x_bind]) ?_
  rw [d1, c1]
  refine T2_chk (n_in (by omega) (by omega)) (n_in (by omega) (by omega)) ?_
  rw [n_cl (p := n) (by omega), hS1.1 5 _ (by omega) (by omega) (by omega), hS2.1 5 _ (by omega) (by omega) (by omega)]
  refine T2_ite Iff.rfl (fun _ _ => ?_) (fun _ _ => ?_)
  · -- one name
    refine T2_chk (n_in3 (by omega) (by omega)) (n_in3 (by omega) (by omega)) ?_
    rw [hS1.1 6 _ (by omega) (by omega) (by omega), hS2.1 6 _ (by omega) (by omega) (by omega), xn]
    obtain ⟨pa, pi, pv, pn, pb⟩ := E_bnd hS1 hI hC hn1 x6 hs x5.1
    have hin : N pa pi := hN pa pi ((NmP_1 hn1 xn).mpr (Or.inl ((pn pa pi).mpr ⟨rfl, rfl⟩)))
    refine T2_ob (pb _ _ rfl rfl) (fun r1 r2 hr => ?_)
    rw [hr.1, hr.2]
    show T2 (fun k => some (0, mAr σ1 pa pi (L1 2))) (fun k => some (0, mAr σ2 pa pi (L2 2))) _
    rw [d2, c2, y1, y2]
    refine T2_some ⟨FE_bd pv hin, FE_bd pv hin, Or.inl (EI_bd hI pv (fun g1 l1 B1 h1 X1 g2 l2 B2 h2 X2 hX => ?_))⟩
    obtain ⟨a', b', z1, z2, z3, z4, z5, z6, z7, z8, z9⟩ := val σ1 σ2 FE_rf FE_rf rfl rfl rfl rfl g1 l1 B1 h1 X1 g2 l2 B2 h2 X2 hX
    rw [← y1, ← y2, z1, z2]
    exact ⟨z6, ⟨a', rfl, z7⟩, ⟨b', rfl, z8⟩⟩
  -- several
  have b6 : ∀ (f m c : Nat) (x : Int32) (ln : Nat) (N1 N2 : Nat → Int32) (τ1 τ2 : MS), WN T FN f 6 O m K lc x → (∀ a i, NmP T σ1 x a i → N a i) → kdN (σ1.2.2 28) a = 5 → σ1.2.2 28 (a + 1) = nI ln → σ2.2.2 28 (b + 1) = nI ln → ln ≤ 3996 → a + 4 + ln ≤ 1740000 → b + 4 + ln ≤ 1740000 → c + m ≤ 70000 → N1 2 = nI a → N2 2 = nI b → N1 4 = nI c → N2 4 = nI c → N1 5 = x → N2 5 = x → FEn N σ1 τ1 → FEn N σ2 τ2 → τ1.2.2 28 = σ1.2.2 28 → τ2.2.2 28 = σ2.2.2 28 → τ1.2.2 34 = σ1.2.2 34 → τ2.2.2 34 = σ2.2.2 34 → EI t w XC τ1 τ2 → T2 (fun k => x_bind k 6 N1 τ1) (fun k => x_bind k 6 N2 τ2) (BdQ N t w XC σ1 σ2) := by
    intro f
    induction f with
    | zero => intro m c x ln N1 N2 τ1 τ2 hW; exact hW.elim
    | succ f ih =>
      intro m c x ln N1 N2 τ1 τ2 hW hNx ka la lb hln ba bb hcm n2 o2 n4 o4 n5 o5 f1 f2 r1 r2 s1 s2 hJ
      have hW0 := hW
      unfold WN at hW
      rcases hW with ⟨z, _⟩ | ⟨z, _⟩ | ⟨z, _⟩ | ⟨z, _⟩ | ⟨z, _⟩ | ⟨z, _⟩ | ⟨_, hor⟩
      case inl => exact absurd z (by decide)
      case inr.inl => exact absurd z (by decide)
      case inr.inr.inl => exact absurd z (by decide)
      case inr.inr.inr.inl => exact absurd z (by decide)
      case inr.inr.inr.inr.inl => exact absurd z (by decide)
      case inr.inr.inr.inr.inr.inl => exact absurd z (by decide)
      refine T2_suc (fun k => by rw [x_bind]) (fun k => by rw [x_bind]) ?_
      rw [n5, o5, n2, o2, n4, o4]
      rcases hor with ⟨_, z⟩ | ⟨m', n', s', em, xn', hn', x6', hs', x5', W9'⟩
      · rw [z]
        refine T2_ite Iff.rfl (fun _ _ => ?_) (fun y _ => absurd rfl y)
        refine T2_suc (fun k => by rw [x_bind]) (fun k => by rw [x_bind]) ?_
        exact T2_some ⟨f1, f2, Or.inl hJ⟩
      rw [xn']
      refine T2_ite Iff.rfl (fun y _ => absurd y (n_neg hn')) (fun _ _ => ?_)
      rw [n_add1, n_add1]
      refine T2_chk (n_in (by omega) (by omega)) (n_in (by omega) (by omega)) ?_
      rw [n_cl (p := a + 1) (by omega), n_cl (p := b + 1) (by omega), r1, r2, la, lb]
      -- one is bound
      have b8 : ∀ (M1 M2 : Nat → Int32) (x y : Int32), M1 2 = nI a → M2 2 = nI b → M1 4 = nI c → M2 4 = nI c → M1 5 = nI n' → M2 5 = nI n' → M1 101 = nI n' → M2 101 = nI n' → M1 100 = x → M2 100 = y → (∀ (g1 : Nat → Prop) (l1 : List Nat) (B1 h1 X1 : Nat) (g2 : Nat → Prop) (l2 : List Nat) (B2 h2 X2 : Nat), EIx t w XC τ1 τ2 g1 l1 B1 h1 X1 g2 l2 B2 h2 X2 → VC g1 g2 (τ1.2.2 28) (τ2.2.2 28) x y ∧ (∃ m, x = nI m ∧ (m < 3 ∨ Rch (τ1.2.2 28) (RoS t τ1) m)) ∧ ∃ m, y = nI m ∧ (m < 3 ∨ Rch (τ2.2.2 28) (RoS t τ2) m)) → T2 (fun k => x_bind k 8 M1 τ1) (fun k => x_bind k 8 M2 τ2) (BdQ N t w XC σ1 σ2) := by
        intro M1 M2 x y m2 l2 m4 l4 m5 l5 m101 l101 m100 l100 hv
        refine T2_suc (fun k => by rw [x_bind]) (fun k => by rw [x_bind]) ?_
        rw [m101, l101, m5, l5, m4, l4]
        obtain ⟨pa, pi, pv, pn, pb⟩ := E_bnd (STb_fe hS1 f1) hJ (Cx_fe hC f1) hn' x6' hs' x5'.1
        have hin : N pa pi := hNx pa pi ((NmP_fe f1).mp ((NmP_1 hn' xn').mpr (Or.inl ((pn pa pi).mpr ⟨rfl, rfl⟩))))
        refine T2_ob (pb _ _ rfl rfl) (fun u1 u2 hu => ?_)
        rw [hu.1, hu.2]
        have e2a : upd (upd (fun _ : Nat => (0 : Int32)) 1 (nI n')) 2 (M1 100) 2 = x := m100
        have e2b : upd (upd (fun _ : Nat => (0 : Int32)) 1 (nI n')) 2 (M2 100) 2 = y := l100
        rw [e2a, e2b]
        refine T2_chk (n_in (by omega) (by omega)) (n_in (by omega) (by omega)) ?_
        have g1 := FE_tr f1 (FE_bd (σ := τ1) (x := x) pv hin)
        have g2 := FE_tr f2 (FE_bd (σ := τ2) (x := y) pv hin)
        obtain ⟨nn1, nn2, nn3, nn4, nn5, nn6, nn7⟩ := PlV_n pv
        rw [n_cl (p := n') (by omega)]
        show T2 (fun k => x_bind k 6 (upd (upd M1 4 (nI c + 1)) 5 ((mAr τ1 pa pi x).2.2 9 n')) (mAr τ1 pa pi x)) (fun k => x_bind k 6 (upd (upd M2 4 (nI c + 1)) 5 ((mAr τ2 pa pi y).2.2 9 n')) (mAr τ2 pa pi y)) _
        rw [(tb _ _ g1 g2 9 _ (by omega) (by omega) (by omega)).1, (tb _ _ g1 g2 9 _ (by omega) (by omega) (by omega)).2]
        exact ih m' (c + 1) (T 9 n') ln _ _ _ _ W9' (fun a i z => hNx a i ((NmP_1 hn' xn').mpr (Or.inr z))) ka la lb hln ba bb (by omega) m2 l2 (n_add1 c) (n_add1 c) rfl rfl g1 g2 ((mAr_o (fun z => nn1 z.symm)).trans r1) ((mAr_o (fun z => nn1 z.symm)).trans r2) ((mAr_o (fun z => nn4 z.symm)).trans s1) ((mAr_o (fun z => nn4 z.symm)).trans s2) (EI_bd hJ pv hv)
      refine T2_ite Iff.rfl (fun _ _ => ?_) (fun y _ => ?_)
      · refine T2_suc (fun k => by rw [x_bind]) (fun k => by rw [x_bind]) ?_
        exact b8 _ _ 0 0 n2 o2 n4 o4 (n5.trans xn') (o5.trans xn') rfl rfl rfl rfl (fun g1 l1 B1 h1 X1 g2 l2 B2 h2 X2 hX => ⟨VC_00, ⟨0, rfl, Or.inl (by decide)⟩, ⟨0, rfl, Or.inl (by decide)⟩⟩)
      · have hc : c < ln := by
          by_cases y' : ln ≤ c
          · exact absurd ((n_le (by omega) (by omega)).mpr y') y
          · omega
        rw [show nI a + 4 = nI (a + 4) from n_add (q := 4) (by omega), show nI b + 4 = nI (b + 4) from n_add (q := 4) (by omega), n_add (p := a + 4) (by omega), n_add (p := b + 4) (by omega)]
        refine T2_chk (n_in (by omega) (by omega)) (n_in (by omega) (by omega)) ?_
        rw [n_cl (p := a + 4 + c) (by omega), n_cl (p := b + 4 + c) (by omega)]
        refine b8 _ _ (σ1.2.2 28 (a + 4 + c)) (σ2.2.2 28 (b + 4 + c)) n2 o2 n4 o4 (n5.trans xn') (o5.trans xn') rfl rfl rfl rfl (fun g1 l1 B1 h1 X1 g2 l2 B2 h2 X2 hX => ?_)
        obtain ⟨a', b', z1, z2, z3, z4, z5, z6, z7, z8, z9⟩ := val τ1 τ2 f1 f2 r1 r2 s1 s2 g1 l1 B1 h1 X1 g2 l2 B2 h2 X2 hX
        have ea : a' = a := (n_eq (by have := HS_vb hX.1.1 z3; omega) (by omega)).mp (z1.symm.trans y1)
        have eb : b' = b := (n_eq (by have := HS_vb hX.2.1.1 z4; omega) (by omega)).mp (z2.symm.trans y2)
        subst ea
        subst eb
        obtain ⟨q2, w1, w2, w3, w4, w5, w6⟩ := z9 (by rw [r1]; exact ka)
        have eq2 : q2 = ln := by
          rw [r1, la] at w1
          exact ((n_eq (by omega) (by omega)).mp w1).symm
        subst eq2
        have := w6 c hc
        rw [r1, r2] at this ⊢
        exact this
  have b4 : ∀ (N1 N2 : Nat → Int32), T2 (fun k => x_bind k 4 N1 σ1) (fun k => x_bind k 4 N2 σ2) (BdQ N t w XC σ1 σ2) := by
    intro N1 N2
    refine T2_suc (fun k => by rw [x_bind]) (fun k => by rw [x_bind]) ?_
    refine T2_ob (T2_t (s_fail _ _) (s_fail _ _)) (fun r1 r2 hr => ?_)
    rw [hr.1, hr.2]
    exact T2_some ⟨FE_n FE_er, FE_n FE_er, Or.inr (E_er (a := t) (b := t) (e := 1) hXC hI (by decide) (by decide) (Nat.le_refl _) (Nat.le_refl _))⟩
  have b3 : ∀ (N1 N2 : Nat → Int32), N1 1 = nI n → N2 1 = nI n → N1 2 = nI a → N2 2 = nI b → N1 3 = N2 3 → T2 (fun k => x_bind k 3 N1 σ1) (fun k => x_bind k 3 N2 σ2) (BdQ N t w XC σ1 σ2) := by
    intro N1 N2 n1' o1 n2 o2 n3
    obtain ⟨g1, l1, B1, h1, X1, g2, l2, B2, h2, X2, hX⟩ := id hI
    obtain ⟨a', b', z1, z2, z3, z4, z5, z6, z7, z8, z9⟩ := val σ1 σ2 FE_rf FE_rf rfl rfl rfl rfl g1 l1 B1 h1 X1 g2 l2 B2 h2 X2 hX
    have ea : a' = a := (n_eq (by have := HS_vb hX.1.1 z3; omega) (by omega)).mp (z1.symm.trans y1)
    have eb : b' = b := (n_eq (by have := HS_vb hX.2.1.1 z4; omega) (by omega)).mp (z2.symm.trans y2)
    subst ea
    subst eb
    have k6 := kdN_6 hX.1.1 z3
    refine T2_suc (fun k => by rw [x_bind]) (fun k => by rw [x_bind]) ?_
    refine T2_ob (T2_t (s_kind hX.1.1 z3 (by exact n2)) (s_kind hX.2.1.1 z4 (by exact o2))) (fun r1 r2 hr => ?_)
    rw [hr.1, hr.2, (EVb_sz y5).2.2, n2, o2, n3]
    refine T2_ite Iff.rfl (fun z _ => ?_) (fun _ _ => b4 _ _)
    have ka : kdN (σ1.2.2 28) a' = 5 := (n_eq (q := 5) (by omega) (by decide)).mp z
    obtain ⟨ln, w1, w2, w3, w4, w5⟩ := y8 ka
    rw [n_add1, n_add1]
    refine T2_chk (n_in (by omega) (by omega)) (n_in (by omega) (by omega)) ?_
    rw [n_cl (p := a' + 1) (by omega), n_cl (p := b' + 1) (by omega)]
    show T2 (fun k => if σ1.2.2 28 (a' + 1) ≤ N2 3 then x_bind k 5 N1 σ1 else x_bind k 4 N1 σ1) (fun k => if σ2.2.2 28 (b' + 1) ≤ N2 3 then x_bind k 5 N2 σ2 else x_bind k 4 N2 σ2) _
    rw [w1, w2]
    refine T2_ite Iff.rfl (fun _ _ => ?_) (fun _ _ => b4 _ _)
    refine T2_suc (fun k => by rw [x_bind]) (fun k => by rw [x_bind]) ?_
    rw [n1', o1]
    refine T2_chk (n_in (by omega) (by omega)) (n_in (by omega) (by omega)) ?_
    rw [n_cl (p := n) (by omega), hS1.1 6 _ (by omega) (by omega) (by omega), hS2.1 6 _ (by omega) (by omega) (by omega)]
    exact b6 f q 0 (T 6 n) ln _ _ σ1 σ2 hW hN ka w1 w2 w3 w4 w5 (by omega) n2 o2 rfl rfl rfl rfl FE_rf FE_rf rfl rfl rfl rfl hI
  have b2 : ∀ (f m : Nat) (x : Int32) (N1 N2 : Nat → Int32), WN T FN f 6 O m K lc x → N1 1 = nI n → N2 1 = nI n → N1 2 = nI a → N2 2 = nI b → N1 3 = N2 3 → N1 4 = x → N2 4 = x → T2 (fun k => x_bind k 2 N1 σ1) (fun k => x_bind k 2 N2 σ2) (BdQ N t w XC σ1 σ2) := by
    intro f
    induction f with
    | zero => intro m x N1 N2 hW; exact hW.elim
    | succ f ih =>
      intro m x N1 N2 hW n1' o1 n2 o2 n3 n4 o4
      unfold WN at hW
      rcases hW with ⟨z, _⟩ | ⟨z, _⟩ | ⟨z, _⟩ | ⟨z, _⟩ | ⟨z, _⟩ | ⟨z, _⟩ | ⟨_, hor⟩
      case inl => exact absurd z (by decide)
      case inr.inl => exact absurd z (by decide)
      case inr.inr.inl => exact absurd z (by decide)
      case inr.inr.inr.inl => exact absurd z (by decide)
      case inr.inr.inr.inr.inl => exact absurd z (by decide)
      case inr.inr.inr.inr.inr.inl => exact absurd z (by decide)
      refine T2_suc (fun k => by rw [x_bind]) (fun k => by rw [x_bind]) ?_
      rw [n4, o4]
      rcases hor with ⟨_, z⟩ | ⟨m', n', s', em, xn', hn', x6', hs', x5', W9'⟩
      · rw [z]
        refine T2_ite Iff.rfl (fun _ _ => b3 _ _ n1' o1 n2 o2 n3) (fun y _ => absurd rfl y)
      rw [xn']
      refine T2_ite Iff.rfl (fun y _ => absurd y (n_neg hn')) (fun _ _ => ?_)
      refine T2_chk (n_in (by omega) (by omega)) (n_in (by omega) (by omega)) ?_
      rw [n_cl (p := n') (by omega), hS1.1 9 _ (by omega) (by omega) (by omega), hS2.1 9 _ (by omega) (by omega) (by omega)]
      exact ih m' (T 9 n') _ _ W9' n1' o1 n2 o2 (by show N1 3 + 1 = N2 3 + 1; rw [n3]) rfl rfl
  refine T2_suc (fun k => by rw [x_bind]) (fun k => by rw [x_bind]) ?_
  rw [d1, c1]
  refine T2_chk (n_in (by omega) (by omega)) (n_in (by omega) (by omega)) ?_
  rw [n_cl (p := n) (by omega), hS1.1 6 _ (by omega) (by omega) (by omega), hS2.1 6 _ (by omega) (by omega) (by omega)]
  exact b2 f q (T 6 n) _ _ hW d1 c1 (d2.trans y1) (c2.trans y2) rfl rfl rfl
end EBN
