section JnS202
/-! Evaluation on both sides (reference): contexts, truths, chains. -/
/-- the context of an evaluation -/
def PC (T : Nat → Nat → Int32) (FN : Nat → Nat → Prop) (O r K : Nat) (lc : Nat → Prop) (d t w XC : Nat) (σ : MS) : Prop := STb T FN σ ∧ XC ≤ 408500 ∧ O ≤ 20 ∧ r ≤ 14 ∧ (d ≤ 1300 ∧ XC + 5 * d ≤ 408500) ∧ 4 ≤ r ∧ w ≤ 60000 ∧ ∃ fu dp e, Cx lc fu dp e σ ∧ e + K ≤ 60 * (fu + 1) ∧ t ≤ w + 17000 + 1210 * (dp + 20 - O) + (14 - r) ∧ 15 * O + r + 15 * (60 - dp) ≤ d
/-- what is evaluated at depth d -/
def PE (T : Nat → Nat → Int32) (FN : Nat → Nat → Prop) (d : Nat) : Prop := ∀ (f O r K : Nat) (lc : Nat → Prop) (x : Int32) (t w XC : Nat) (σ1 σ2 : MS) (L1 L2 : Nat → Int32), WN T FN f 0 O r K lc x → PC T FN O r K lc d t w XC σ1 → EI t w XC σ1 σ2 → L1 1 = x → L2 1 = x → T2 (fun k => x_GV k d 4 0 L1 σ1) (fun k => x_GV k d 4 0 L2 σ2) (EQ (178000 + d) t w XC σ1 σ2)
def PEb (T : Nat → Nat → Int32) (FN : Nat → Nat → Prop) (d : Nat) : Prop := ∀ (f O r K : Nat) (lc : Nat → Prop) (x : Int32) (t w XC : Nat) (σ1 σ2 : MS) (L1 L2 : Nat → Int32), WN T FN f 1 O r K lc x → PC T FN O r K lc (d + 1) t w XC σ1 → EI t w XC σ1 σ2 → L1 1 = x → L2 1 = x → T2 (fun k => x_GV k d 0 0 L1 σ1) (fun k => x_GV k d 0 0 L2 σ2) (EQ (178000 + d) t w XC σ1 σ2)
def PEg (T : Nat → Nat → Int32) (FN : Nat → Nat → Prop) (d : Nat) : Prop := ∀ (f O r K : Nat) (lc : Nat → Prop) (x : Int32) (t w XC : Nat) (σ1 σ2 : MS) (L1 L2 : Nat → Int32), WN T FN f 2 O r K lc x → PC T FN O r K lc (d + 1) t w XC σ1 → EI (t + 1) w XC σ1 σ2 → L1 1 = x → L2 1 = x → T2 (fun k => x_GV k d 7 0 L1 σ1) (fun k => x_GV k d 7 0 L2 σ2) (EQ (178000 + d) t w XC σ1 σ2)
theorem n_in3 {p n : Nat} (h : p < n) (hp : p < 2147483648) : ¬ (nI p < 0 ∨ n ≤ p) := by
  intro z
  rcases z with z | z
  · have := (n_lt (q := 0) hp (by decide)).mp z
    omega
  · omega
section PCS
variable {T : Nat → Nat → Int32} {FN : Nat → Nat → Prop} {O r K d t w XC : Nat} {lc : Nat → Prop} {σ σ1 σ2 ρ : MS}
theorem PC_fe {w' : Nat} (h : PC T FN O r K lc d t w XC σ) (hF : FE σ ρ) (hw : w ≤ w') (hw2 : w' ≤ 60000) : PC T FN O r K lc d t w' XC ρ := by
  obtain ⟨a1, a2, a3, a4, a5, a6, _, fu, dp, e, c1, c2, c3, c4⟩ := h
  exact ⟨STb_fe a1 hF, a2, a3, a4, a5, a6, hw2, fu, dp, e, Cx_fe c1 hF, c2, by omega, c4⟩
/-- an operand -/
theorem PC_lo {O' r' t' d' : Nat} (h : PC T FN O r K lc d t w XC σ) (ho : (O' = O ∧ r' + 2 ≤ r) ∨ (O' < O ∧ r' ≤ 14)) (h4 : 4 ≤ r') (ht : t' ≤ t + 2) (hd : d ≤ d' + 2) (hd2 : d' ≤ d) : PC T FN O' r' K lc d' t' w XC σ := by
  obtain ⟨a1, a2, a3, a4, a5, a6, a7, fu, dp, e, c1, c2, c3, c4⟩ := h
  refine ⟨a1, a2, by omega, by omega, by omega, h4, a7, fu, dp, e, c1, c2, ?_, by omega⟩
  have := c1.2.2.2.1
  omega
/-- one level further in -/
theorem PC_in {K' t' d' : Nat} (h : PC T FN O r K lc d t w XC σ) (h1 : 1 ≤ O) (hK : K' ≤ K) (ht : t' ≤ t + 1200) (hd : d ≤ d' + 5) (hd2 : d' ≤ d) : PC T FN (O - 1) 14 K' lc d' t' w XC σ := by
  obtain ⟨a1, a2, a3, a4, a5, a6, a7, fu, dp, e, c1, c2, c3, c4⟩ := h
  refine ⟨a1, a2, by omega, by omega, by omega, by omega, a7, fu, dp, e, c1, by omega, ?_, by omega⟩
  have := c1.2.2.2.1
  omega
theorem PC_t (h : PC T FN O r K lc d t w XC σ) : t ≤ 174000 := by
  obtain ⟨a1, a2, a3, a4, a5, a6, a7, fu, dp, e, c1, c2, c3, c4⟩ := h
  have := c1.2.2.2.1
  omega
theorem EI_w (h : EI t w XC σ1 σ2) : w ≤ 60000 := by
  obtain ⟨_, _, _, _, _, _, _, _, _, _, _, _, _, _, _, _, _, _, _, z, _⟩ := h
  exact z.1
theorem EI_e (h : EI t w XC σ1 σ2) : σ1.1 56 = 0 ∧ σ2.1 56 = 0 := by
  obtain ⟨_, _, _, _, _, _, _, _, _, _, _, _, _, _, _, _, a, b, _⟩ := h
  exact ⟨a, b⟩
theorem EI_59 (h : EI t w XC σ1 σ2) : σ1.1 59 = nI t ∧ σ2.1 59 = nI t := by
  obtain ⟨_, _, _, _, _, _, _, _, _, _, _, _, hR, _, _, a, _⟩ := h
  exact ⟨a, (hR.2.2.1 59 (by unfold AlS; omega)).symm.trans a⟩
/-- tables are alike -/
theorem EI_row {a i : Nat} (h : EI t w XC σ1 σ2) (ha : (a = 17 ∨ a = 18) ∧ i < (σ1.1 30).toNatClampNeg) : σ2.2.2 a i = σ1.2.2 a i := by
  obtain ⟨_, _, _, _, _, _, _, _, _, _, _, _, hR, _⟩ := h
  exact (hR.2.1 a i (by unfold AlR; omega) (by unfold Zn; omega) (by unfold InA StU; omega)).symm
theorem EI_ST (h : EI t w XC σ1 σ2) (hS : STb T FN σ1) : STb T FN σ2 := by
  obtain ⟨_, _, _, _, _, _, _, _, _, _, _, _, hR, _⟩ := h
  exact STb_ra hR hS
theorem EZ_e {a b : Nat} (h : EZ a b σ) : ¬ σ.1 56 = 0 := by
  obtain ⟨_, _, _, _, _, _, _, _, _, z, _⟩ := h
  exact z
theorem EZ_mo {a b a' b' : Nat} (h : EZ a b σ) (ha : a' ≤ a) (hb : b ≤ b') : EZ a' b' σ := by
  obtain ⟨g, l, B, h', t, m, c1, c2, c3, c4⟩ := h
  exact ⟨g, l, B, h', t, m, c1, by omega, by omega, c4⟩
theorem EZ_le {a b : Nat} (h : EZ a b σ) : ¬ σ.1 56 ≤ 0 := by
  obtain ⟨_, _, _, _, _, _, _, _, _, z, q, _⟩ := h
  exact ErB_pos q z
/-- an error comes to be -/
theorem EZ_er {g : Nat → Prop} {l : List Nat} {B h X a b e : Nat} (hM : MI t X g l B h σ) (hX : X ≤ 870000) (h59 : σ.1 59 = nI t) (h56 : σ.1 56 = 0) (h57 : σ.1 57 = nI w) (hw : w ≤ 80000) (h95 : ∃ c, σ.1 95 = nI c ∧ c ≤ 1000000) (he : e ≤ 11) (he0 : ¬ nI e = 0) (ha : a ≤ t) (hb : t ≤ b) : EZ a b (mEr σ (nI e)) :=
  ⟨g, l, B, h, t, MI_X (MI_c hM (mEr_s (by decide)) (mEr_s (by decide)) (mEr_s (by decide)) (mEr_s (by decide)) rfl) hX, (mEr_s (by decide)).trans h59, ha, hb, mEr_e he0, ErB_er ⟨0, h56, by decide⟩ he, ⟨w, (mEr_s (by decide)).trans h57, hw⟩, by rw [mEr_s (by decide)]; exact h95⟩
theorem E_er {a b e : Nat} (hXC : XC ≤ 408500) (hE : EI t w XC σ1 σ2) (he : e ≤ 11) (he0 : ¬ nI e = 0) (ha : a ≤ t) (hb : t ≤ b) : EZ a b (mEr σ1 (nI e)) ∧ EZ a b (mEr σ2 (nI e)) := by
  obtain ⟨g1, l1, B1, h1, X1, g2, l2, B2, h2, X2, m1, m2, hR, i1, i2, t1, e1, e2, w1, hw, x1, x2, _, c, c1, c2⟩ := hE
  have al : ∀ j, AlS j → σ2.1 j = σ1.1 j := fun j h => (hR.2.2.1 j h).symm
  exact ⟨EZ_er m1 (by omega) t1 e1 w1 (by omega) ⟨c, c1, c2⟩ he he0 ha hb, EZ_er m2 (by omega) ((al 59 (by unfold AlS; omega)).trans t1) e2 ((al 57 (by unfold AlS; omega)).trans w1) (by omega) ⟨c, (al 95 (by unfold AlS; omega)).trans c1, c2⟩ he he0 ha hb⟩
/-- popped -/
theorem EI_dn {u : Nat} (hu : u ≤ t) (hE : EI t w XC σ1 σ2) : EI u w XC (mSc σ1 59 (nI u)) (mSc σ2 59 (nI u)) := by
  obtain ⟨g1, l1, B1, h1, X1, g2, l2, B2, h2, X2, m1, m2, hR, i1, i2, t1, e1, e2, w1, hw, x1, x2, y, c⟩ := hE
  exact ⟨g1, l1, B1, h1, X1, g2, l2, B2, h2, X2, MI_59 (MI_mo m1 hu), MI_59 (MI_mo m2 hu), RA_59 (RA_mo hu hR), IT_c rfl rfl rfl rfl i1, IT_c rfl rfl rfl rfl i2, rfl, e1, e2, w1, hw, x1, x2, y, c⟩
theorem VC_c {g1 g2 : Nat → Prop} {H1 H2 : Nat → Int32} {x y : Int32} {c : Nat} (hc : c < 3) (h : VC g1 g2 H1 H2 x y) : x = nI c ↔ y = nI c := by
  obtain ⟨a, b, c1, c2, c3, c4, c5, c6, c7⟩ := h
  rw [c1, c3]
  constructor
  · intro z
    have z := (n_eq (by omega) (by omega)).mp z
    rcases EVb_3 c5 with y | y
    · rw [y.2, z]
    · omega
  · intro z
    have z := (n_eq (by omega) (by omega)).mp z
    rcases EVb_3 c5 with y | y
    · rw [← y.2, z]
    · omega
theorem EI_top {i : Nat} (hi : i < t) (hE : EI t w XC σ1 σ2) : ∃ (g1 g2 : Nat → Prop), VC g1 g2 (σ1.2.2 28) (σ2.2.2 28) (σ1.2.2 29 i) (σ2.2.2 29 i) := by
  obtain ⟨g1, l1, B1, h1, X1, g2, l2, B2, h2, X2, m1, m2, hR, _⟩ := hE
  exact ⟨g1, g2, hR.1 29 i (Or.inl ⟨rfl, hi⟩) (by unfold VwR; omega)⟩
/-- a truth is popped -/
theorem E_isTrue (hXC : XC ≤ 408500) (ht : t < 185000) (hE : EI (t + 1) w XC σ1 σ2) (L1 L2 : Nat → Int32) : T2 (fun k => x_isTrue k 0 L1 σ1) (fun k => x_isTrue k 0 L2 σ2) (fun r1 r2 => r1.1 = r2.1 ∧ (r1.1 = 0 ∨ r1.1 = 1) ∧ FE σ1 r1.2 ∧ FE σ2 r2.2 ∧ (EI t w XC r1.2 r2.2 ∨ (EZ t t r1.2 ∧ EZ t t r2.2 ∧ r1.1 = 0))) := by
  obtain ⟨t1, t2⟩ := EI_59 hE
  obtain ⟨g1, g2, hv⟩ := EI_top (i := t) (by omega) hE
  have hD := EI_dn (show t ≤ t + 1 by omega) hE
  have fin : ∀ (c : Int32) (N1 N2 : Nat → Int32) (τ1 τ2 : MS), (c = 0 ∨ c = 1) → N1 100 = c → N2 100 = c → FE σ1 τ1 → FE σ2 τ2 → (EI t w XC τ1 τ2 ∨ (EZ t t τ1 ∧ EZ t t τ2 ∧ c = 0)) → T2 (fun k => x_isTrue k 3 N1 τ1) (fun k => x_isTrue k 3 N2 τ2) (fun r1 r2 => r1.1 = r2.1 ∧ (r1.1 = 0 ∨ r1.1 = 1) ∧ FE σ1 r1.2 ∧ FE σ2 r2.2 ∧ (EI t w XC r1.2 r2.2 ∨ (EZ t t r1.2 ∧ EZ t t r2.2 ∧ r1.1 = 0))) := by
    intro c N1 N2 τ1 τ2 hc n1 n2 f1 f2 h
    refine T2_suc (fun k => by rw [x_isTrue]) (fun k => by rw [x_isTrue]) ?_
    rw [n1, n2]
    exact T2_chk hc hc (T2_some ⟨rfl, hc, f1, f2, h⟩)
  have b1 : ∀ (N1 N2 : Nat → Int32) (τ1 τ2 : MS), (N1 1 = 2 ↔ N2 1 = 2) → FE σ1 τ1 → FE σ2 τ2 → (EI t w XC τ1 τ2 ∨ (EZ t t τ1 ∧ EZ t t τ2 ∧ ¬ N1 1 = 2)) → T2 (fun k => x_isTrue k 1 N1 τ1) (fun k => x_isTrue k 1 N2 τ2) (fun r1 r2 => r1.1 = r2.1 ∧ (r1.1 = 0 ∨ r1.1 = 1) ∧ FE σ1 r1.2 ∧ FE σ2 r2.2 ∧ (EI t w XC r1.2 r2.2 ∨ (EZ t t r1.2 ∧ EZ t t r2.2 ∧ r1.1 = 0))) := by
    intro N1 N2 τ1 τ2 hn f1 f2 h
    refine T2_suc (fun k => by rw [x_isTrue]) (fun k => by rw [x_isTrue]) ?_
    refine T2_ite hn (fun z _ => fin 1 _ _ _ _ (Or.inr rfl) rfl rfl f1 f2 ?_) (fun z _ => ?_)
    · rcases h with h | h
      · exact Or.inl h
      · exact absurd z h.2.2
    · refine T2_suc (fun k => by rw [x_isTrue]) (fun k => by rw [x_isTrue]) ?_
      exact fin 0 _ _ _ _ (Or.inl rfl) rfl rfl f1 f2 (h.imp id (fun y => ⟨y.1, y.2.1, rfl⟩))
  have f59 : ∀ σ : MS, FE σ (mSc σ 59 (nI t)) := fun σ => FE_sc (Or.inr (Or.inr (Or.inl rfl)))
  have v2 : σ1.2.2 29 t = 2 ↔ σ2.2.2 29 t = 2 := VC_c (c := 2) (by decide) hv
  have v1 : σ1.2.2 29 t = 1 ↔ σ2.2.2 29 t = 1 := VC_c (c := 1) (by decide) hv
  refine T2_suc (fun k => by rw [x_isTrue]) (fun k => by rw [x_isTrue]) ?_
  refine T2_ob (T2_t (s_pop t1 (by omega) _) (s_pop t2 (by omega) _)) (fun r1 r2 hr => ?_)
  rw [hr.1, hr.2]
  refine T2_ite v2 (fun _ _ => b1 _ _ _ _ v2 (f59 _) (f59 _) (Or.inl hD)) (fun z _ => ?_)
  refine T2_ite v1 (fun _ _ => b1 _ _ _ _ v2 (f59 _) (f59 _) (Or.inl hD)) (fun _ _ => ?_)
  refine T2_ob (T2_t (s_fail _ _) (s_fail _ _)) (fun s1 s2 hs => ?_)
  rw [hs.1, hs.2]
  obtain ⟨z1, z2⟩ := E_er (a := t) (b := t) (e := 9) hXC hD (by decide) (by decide) (Nat.le_refl _) (Nat.le_refl _)
  exact b1 _ _ _ _ v2 (FE_tr (f59 _) FE_er) (FE_tr (f59 _) FE_er) (Or.inr ⟨z1, z2, z⟩)
theorem s_isOver {σ : MS} (L : Nat → Int32) : Tm (fun k => x_isOver k 0 L σ) (fun r => r.2 = σ ∧ ((Ov (L 0) ∧ r.1 = 1) ∨ (¬ Ov (L 0) ∧ r.1 = 0))) := by
  have y : ∀ N : Nat → Int32, Ov (L 0) → Tm (fun k => x_isOver k 1 N σ) (fun r => r.2 = σ ∧ ((Ov (L 0) ∧ r.1 = 1) ∨ (¬ Ov (L 0) ∧ r.1 = 0))) := fun N h => by
    refine Tm_suc (fun k => by rw [x_isOver]) ?_
    refine Tm_suc (fun k => by rw [x_isOver]) ?_
    exact Tm_chk (Or.inr rfl) (Tm_some ⟨rfl, Or.inl ⟨h, rfl⟩⟩)
  refine Tm_suc (fun k => by rw [x_isOver]) ?_
  refine Tm_ite (fun z => y _ (Or.inl z)) (fun z1 => ?_)
  refine Tm_ite (fun z => y _ (Or.inr (Or.inl z))) (fun z2 => ?_)
  refine Tm_ite (fun z => y _ (Or.inr (Or.inr (Or.inl z)))) (fun z3 => ?_)
  refine Tm_ite (fun z => y _ (Or.inr (Or.inr (Or.inr (Or.inl z))))) (fun z4 => ?_)
  refine Tm_ite (fun z => y _ (Or.inr (Or.inr (Or.inr (Or.inr (Or.inl z)))))) (fun z5 => ?_)
  refine Tm_ite (fun z => y _ (Or.inr (Or.inr (Or.inr (Or.inr (Or.inr (Or.inl z))))))) (fun z6 => ?_)
  refine Tm_ite (fun z => y _ (Or.inr (Or.inr (Or.inr (Or.inr (Or.inr (Or.inr z))))))) (fun z7 => ?_)
  refine Tm_suc (fun k => by rw [x_isOver]) ?_
  refine Tm_suc (fun k => by rw [x_isOver]) ?_
  refine Tm_chk (Or.inl rfl) (Tm_some ⟨rfl, Or.inr ⟨fun h => ?_, rfl⟩⟩)
  rcases h with h | h | h | h | h | h | h
  · exact z1 h
  · exact z2 h
  · exact z3 h
  · exact z4 h
  · exact z5 h
  · exact z6 h
  · exact z7 h
/-- a chain is evaluated: what begins it, then one after another -/
theorem PE_of (hB : PEb T FN d) (hG : PEg T FN d) : PE T FN (d + 1) := by
  intro f O r K lc x t w XC σ1 σ2 L1 L2 hW hP hE d1 d2
  cases f with
  | zero => exact hW.elim
  | succ f =>
  have hW : _ := hW
  unfold WN at hW
  rcases hW with ⟨_, h4, n, k, ch, xn, chk, c70, clk, nov, hov, hbeg⟩ | ⟨z, _⟩ | ⟨z, _⟩ | ⟨z, _⟩ | ⟨z, _⟩ | ⟨z, _⟩ | ⟨z, _⟩
  case inr.inl => exact absurd z (by decide)
  case inr.inr.inl => exact absurd z (by decide)
  case inr.inr.inr.inl => exact absurd z (by decide)
  case inr.inr.inr.inr.inl => exact absurd z (by decide)
  case inr.inr.inr.inr.inr.inl => exact absurd z (by decide)
  case inr.inr.inr.inr.inr.inr => exact absurd z (by decide)
  have hS1 := hP.1
  have hS2 := EI_ST hE hS1
  -- one after another
  have b3 : ∀ (q i w' : Nat) (N1 N2 : Nat → Int32) (τ1 τ2 : MS), q + i = k → N1 1 = x → N2 1 = x → N1 2 = nI (ch i) → N2 2 = nI (ch i) → FE σ1 τ1 → FE σ2 τ2 → ((w ≤ w' ∧ EI (t + 1) w' XC τ1 τ2) ∨ (EZ t (178000 + d) τ1 ∧ EZ t (178000 + d) τ2)) → T2 (fun k => x_GV k (d + 1) 4 3 N1 τ1) (fun k => x_GV k (d + 1) 4 3 N2 τ2) (EQ (178000 + (d + 1)) t w XC σ1 σ2) := by
    intro q
    induction q with
    | zero =>
      intro i w' N1 N2 τ1 τ2 hi n1 o1 n2 o2 f1 f2 h
      have hik : i = k := by omega
      subst hik
      refine T2_suc (fun k => e_eval_3 k _ _ _) (fun k => e_eval_3 k _ _ _) ?_
      rw [n1, o1, n2, o2, chk, xn]
      refine T2_ite Iff.rfl (fun _ _ => ?_) (fun z _ => absurd rfl z)
      refine T2_suc (fun k => e_eval_4 k _ _ _) (fun k => e_eval_4 k _ _ _) ?_
      exact T2_some ⟨f1, f2, h.imp (fun y => ⟨w', y.1, y.2⟩) (fun y => ⟨EZ_mo y.1 (Nat.le_refl _) (by omega), EZ_mo y.2 (Nat.le_refl _) (by omega)⟩)⟩
    | succ q ih =>
      intro i w' N1 N2 τ1 τ2 hi n1 o1 n2 o2 f1 f2 h
      have b4 : ∀ M1 M2 : Nat → Int32, T2 (fun k => x_GV k (d + 1) 4 4 M1 τ1) (fun k => x_GV k (d + 1) 4 4 M2 τ2) (EQ (178000 + (d + 1)) t w XC σ1 σ2) := fun M1 M2 => by
        refine T2_suc (fun k => e_eval_4 k _ _ _) (fun k => e_eval_4 k _ _ _) ?_
        exact T2_some ⟨f1, f2, h.imp (fun y => ⟨w', y.1, y.2⟩) (fun y => ⟨EZ_mo y.1 (Nat.le_refl _) (by omega), EZ_mo y.2 (Nat.le_refl _) (by omega)⟩)⟩
      have hci := c70 i (by omega)
      have e9a : τ1.2.2 9 (ch i) = nI (ch (i + 1)) := by rw [(STb_fe hS1 f1).1 9 _ (by omega) (by omega) (by omega)]; exact (clk i (by omega)).2
      have e9b : τ2.2.2 9 (ch i) = nI (ch (i + 1)) := by rw [(STb_fe hS2 f2).1 9 _ (by omega) (by omega) (by omega)]; exact (clk i (by omega)).2
      refine T2_suc (fun k => e_eval_3 k _ _ _) (fun k => e_eval_3 k _ _ _) ?_
      rw [n1, o1, n2, o2]
      refine T2_ite Iff.rfl (fun _ _ => b4 _ _) (fun _ _ => ?_)
      rcases h with ⟨hw', hI⟩ | ⟨z1, z2⟩
      · obtain ⟨e1, e2⟩ := EI_e hI
        rw [e1, e2]
        refine T2_ite Iff.rfl (fun _ _ => ?_) (fun z _ => absurd rfl z)
        refine T2_chk (n_in (by omega) (by omega)) (n_in (by omega) (by omega)) ?_
        rw [n_cl (p := ch i) (by omega), e9a, e9b]
        refine T2_od ?_
        have hw60 := EI_w hI
        refine T2_ob (hG f O r K lc (nI (ch (i + 1))) t w' XC τ1 τ2 _ _ (hov (i + 1) (by omega) (by omega)).2 (PC_fe hP f1 hw' hw60) hI rfl rfl) (fun r1 r2 hr => ?_)
        obtain ⟨g1, g2, hr⟩ := hr
        rcases hr with ⟨w2, hw2, hI2⟩ | hz
        · exact ih (i + 1) w2 _ _ r1.2 r2.2 (by omega) n1 o1 rfl rfl (FE_tr f1 g1) (FE_tr f2 g2) (Or.inl ⟨by omega, hI2⟩)
        · exact ih (i + 1) w' _ _ r1.2 r2.2 (by omega) n1 o1 rfl rfl (FE_tr f1 g1) (FE_tr f2 g2) (Or.inr hz)
      · exact T2_ite ⟨fun z => absurd z (EZ_e z1), fun z => absurd z (EZ_e z2)⟩ (fun z _ => absurd z (EZ_e z1)) (fun _ _ => b4 _ _)
  -- down to what begins
  have b1 : ∀ (i : Nat) (N1 N2 : Nat → Int32), i ≤ k → N1 1 = x → N2 1 = x → N1 2 = nI (ch i) → N2 2 = nI (ch i) → T2 (fun k => x_GV k (d + 1) 4 1 N1 σ1) (fun k => x_GV k (d + 1) 4 1 N2 σ2) (EQ (178000 + (d + 1)) t w XC σ1 σ2) := by
    intro i
    induction i with
    | zero =>
      intro N1 N2 hi n1 o1 n2 o2
      have h0 := c70 0 (by omega)
      refine T2_suc (fun k => e_eval_1 k _ _ _) (fun k => e_eval_1 k _ _ _) ?_
      rw [n2, o2]
      refine T2_chk (n_in (by omega) (by omega)) (n_in (by omega) (by omega)) ?_
      rw [n_cl (p := ch 0) (by omega), hS1.1 4 _ (by omega) (by omega) (by omega), hS2.1 4 _ (by omega) (by omega) (by omega)]
      refine T2_ob (T2_t (s_isOver _) (s_isOver _)) (fun r1 r2 hr => ?_)
      obtain ⟨⟨a1, a2⟩, ⟨b1, b2⟩⟩ := hr
      have a2 : r1.1 = 0 := (a2.resolve_left (fun z => nov z.1)).2
      have b2 : r2.1 = 0 := (b2.resolve_left (fun z => nov z.1)).2
      rw [a1, b1, a2, b2]
      refine T2_ite Iff.rfl (fun _ _ => ?_) (fun z _ => absurd rfl z)
      refine T2_suc (fun k => e_eval_2 k _ _ _) (fun k => e_eval_2 k _ _ _) ?_
      rw [n2, o2]
      refine T2_od ?_
      refine T2_ob (hB f O r K lc (nI (ch 0)) t w XC σ1 σ2 _ _ hbeg hP hE rfl rfl) (fun s1 s2 hs => ?_)
      obtain ⟨f1, f2, hs⟩ := hs
      rcases hs with ⟨w2, hw2, hI⟩ | hz
      · exact b3 k 0 w2 _ _ s1.2 s2.2 (by omega) n1 o1 n2 o2 f1 f2 (Or.inl ⟨hw2, hI⟩)
      · exact b3 k 0 w _ _ s1.2 s2.2 (by omega) n1 o1 n2 o2 f1 f2 (Or.inr hz)
    | succ i ih =>
      intro N1 N2 hi n1 o1 n2 o2
      have h0 := c70 (i + 1) (by omega)
      refine T2_suc (fun k => e_eval_1 k _ _ _) (fun k => e_eval_1 k _ _ _) ?_
      rw [n2, o2]
      refine T2_chk (n_in (by omega) (by omega)) (n_in (by omega) (by omega)) ?_
      rw [n_cl (p := ch (i + 1)) (by omega), hS1.1 4 _ (by omega) (by omega) (by omega), hS2.1 4 _ (by omega) (by omega) (by omega)]
      refine T2_ob (T2_t (s_isOver _) (s_isOver _)) (fun r1 r2 hr => ?_)
      obtain ⟨⟨a1, a2⟩, ⟨b1, b2⟩⟩ := hr
      have ho := (hov (i + 1) (by omega) (by omega)).1
      have a2 : r1.1 = 1 := (a2.resolve_right (fun z => z.1 ho)).2
      have b2 : r2.1 = 1 := (b2.resolve_right (fun z => z.1 ho)).2
      rw [a1, b1, a2, b2]
      refine T2_ite Iff.rfl (fun z _ => absurd z (by decide)) (fun _ _ => ?_)
      refine T2_chk (n_in3 (by omega) (by omega)) (n_in3 (by omega) (by omega)) ?_
      rw [hS1.1 6 _ (by omega) (by omega) (by omega), hS2.1 6 _ (by omega) (by omega) (by omega), (clk i (by omega)).1]
      exact ih _ _ (by omega) n1 o1 rfl rfl
  refine T2_suc (fun k => e_eval_0 k _ _ _) (fun k => e_eval_0 k _ _ _) ?_
  exact b1 k _ _ (Nat.le_refl _) d1 d2 (by show L1 1 = _; rw [d1, xn, chk]) (by show L2 1 = _; rw [d2, xn, chk])
end PCS
end JnS202
section JnS203
/-! Evaluation on both sides (reference): what goes on behind a value. -/
section EGO
variable {T : Nat → Nat → Int32} {FN : Nat → Nat → Prop} {O r K d t w XC : Nat} {lc : Nat → Prop} {σ1 σ2 : MS}
theorem WN_r {f : Nat} {x : Int32} (h : WN T FN f 0 O r K lc x) : 4 ≤ r := by
  cases f with
  | zero => exact h.elim
  | succ f =>
    unfold WN at h
    rcases h with ⟨_, z, _⟩ | ⟨z, _⟩ | ⟨z, _⟩ | ⟨z, _⟩ | ⟨z, _⟩ | ⟨z, _⟩ | ⟨z, _⟩
    · exact z
    all_goals exact absurd z (by decide)
/-- an operation on values -/
theorem E_op {c : Nat} {g1 g2 : Nat → Prop} {l1 l2 : List Nat} {B1 h1 X1 B2 h2 X2 KK : Nat} {Y1 Y2 : Nat → Option (Int32 × MS)} (hX : EIx t w XC σ1 σ2 g1 l1 B1 h1 X1 g2 l2 B2 h2 X2) (v1 : Tm Y1 (VO g1 B1 h1 t σ1)) (v2 : Tm Y2 (VO g2 B2 h2 t σ2)) (kq : ∀ n, Pm n Y1 Y2 (KQ h1 h2 KK)) (k1 : ∀ k, Wk (Y1 k) σ1.2.1) (k2 : ∀ k, Wk (Y2 k) σ2.2.1) (hc : h1 + KK + c ≤ B1 + 870000 ∧ h2 + KK + c ≤ B2 + 870000) : T2 Y1 Y2 (fun r1 r2 => SO t w XC g1 σ1 r1 ∧ SO t w XC g2 σ2 r2 ∧ KS c r1 r2 ∧ r1.2.1 95 = σ1.1 95 ∧ r2.2.1 95 = σ2.1 95) := by
  obtain ⟨m1, m2, hR, i1, i2, t1, e1, e2, w1, hw, x1, x2, _⟩ := hX
  have w2 : σ2.1 57 = nI w := (hR.2.2.1 57 (by unfold AlS; omega)).symm.trans w1
  refine T2_mono (T2_of v1 v2 (fun n => Pm_wl k1 k2 (kq n))) (fun r1 r2 hr => ?_)
  obtain ⟨⟨hq, a1, a2⟩, b1, b2⟩ := hr
  have c1 := b1
  have c2 := b2
  obtain ⟨_, _, _, _, f1, _⟩ := c1
  obtain ⟨_, _, _, _, f2, _⟩ := c2
  refine ⟨SO_of (W := 0) (by omega) m1 w1 hw.1 x1 (VQ_of b1), SO_of (W := 0) (by omega) m2 w2 hw.1 x2 (VQ_of b2), ⟨KR_of (VO_54 b1) (VO_54 b2) hc hq ?_, ?_⟩, f1.1 95 (by decide), f2.1 95 (by decide)⟩
  · rw [f1.1 57 (by decide), f2.1 57 (by decide), w1, w2]
  · rw [a1, a2]; exact hR.2.2.2
/-- a truth is made, counted and pushed -/
theorem E_tru {Q : Int32 × MS → Int32 × MS → Prop} {F1 F2 : Nat → Int32 × MS → Option (Int32 × MS)} (ht : t ≤ 176000) (hE : EI t w XC σ1 σ2) {L1 L2 : Nat → Int32} (hL : L1 1 = L2 1) (hQ : ∀ v1 v2 : Int32 × MS, FE σ1 v1.2 → FE σ2 v2.2 → ((∃ w', w ≤ w' ∧ EI (t + 1) w' XC v1.2 v2.2) ∨ (EZ t (t + 2001) v1.2 ∧ EZ t (t + 2001) v2.2)) → T2 (fun k => F1 k v1) (fun k => F2 k v2) Q) : T2 (fun k => ob (x_truth k 0 L1 σ1) (fun r => ob (x_answer k 0 (upd (fun _ => 0) 1 r.1) r.2) (fun u => ob (x_push k 0 (upd (fun _ => 0) 1 u.1) u.2) (F1 k)))) (fun k => ob (x_truth k 0 L2 σ2) (fun r => ob (x_answer k 0 (upd (fun _ => 0) 1 r.1) r.2) (fun u => ob (x_push k 0 (upd (fun _ => 0) 1 u.1) u.2) (F2 k)))) Q := by
  obtain ⟨g1, l1, B1, h1, X1, g2, l2, B2, h2, X2, hX⟩ := hE
  have hX0 := hX
  obtain ⟨m1, m2, hR, i1, i2, t1, e1, e2, w1, hw, x1, x2, ⟨ty1, ty2⟩, a, a1, a2⟩ := hX
  have t2 : σ2.1 59 = nI t := (hR.2.2.1 59 (by unfold AlS; omega)).symm.trans t1
  have a95 := hR.2.2.1 95 (by unfold AlS; omega)
  refine T2_ob (E_op (KK := 0) hX0 (Tm_mono (s_truth L1) (fun r hr => VO_tru ⟨m1.1, t1, by omega, ⟨0, e1, by decide⟩⟩ hr)) (Tm_mono (s_truth L2) (fun r hr => VO_tru ⟨m2.1, t2, by omega, ⟨0, e2, by decide⟩⟩ hr)) (fun n => Pm_mono (k_truth m1.1 m2.1 ⟨fun _ => e2, fun _ => e1⟩ hL) (fun r1 r2 hr => hr.1)) (fun k => wl_truth k _ _ _) (fun k => wl_truth k _ _ _) (c := XC - 400000 + 10) (by omega)) (fun r1 r2 hr => ?_)
  obtain ⟨s1, s2, ks, b1, b2⟩ := hr
  exact E_ans m1 m2 hR i1 i2 ⟨ht, Nat.le_refl _⟩ ty1 ty2 ⟨a, b1.trans a1, a2⟩ (b1.trans (a95.trans b2.symm)) s1 s2 ks hQ
/-- with an error a truth is pushed all the same -/
theorem s_truZ {a b : Nat} {σ : MS} {F : Nat → Int32 × MS → Option (Int32 × MS)} {P : Int32 × MS → Prop} (hb : b < 185000) (hZ : EZ a b σ) {L : Nat → Int32} (hQ : ∀ v : Int32 × MS, FE σ v.2 → EZ a (b + 1) v.2 → Tm (fun k => F k v) P) : Tm (fun k => ob (x_truth k 0 L σ) (fun r => ob (x_answer k 0 (upd (fun _ => 0) 1 r.1) r.2) (fun u => ob (x_push k 0 (upd (fun _ => 0) 1 u.1) u.2) (F k)))) P := by
  obtain ⟨g, l, B, h, t, m, c1, c2, c3, c4, c5, c6, c7⟩ := hZ
  refine Tm_ob (s_truth L) (fun r hr => ?_)
  rw [hr.1]
  have hr2 : ∃ c, r.1 = nI c ∧ c < 3 := by
    rcases hr.2 with z | z
    · exact ⟨1, z, by decide⟩
    · exact ⟨2, z, by decide⟩
  obtain ⟨c, cc1, cc2⟩ := hr2
  have an : Tm (fun k => x_answer k 0 (upd (fun _ => 0) 1 r.1) σ) (fun s => s = (r.1, σ)) := by
    refine Tm_suc (fun k => by rw [x_answer]) ?_
    refine Tm_ite (fun z => absurd z c4) (fun _ => ?_)
    refine Tm_suc (fun k => by rw [x_answer]) ?_
    exact Tm_some rfl
  refine Tm_ob an (fun s hs => ?_)
  rw [hs]
  refine Tm_ob (s_push c1 (by omega) _) (fun u hu => ?_)
  rw [hu]
  refine hQ _ FE_pu ?_
  show EZ a (b + 1) (mPu σ t r.1)
  exact EZ_pu m c1 c2 (by omega) c4 c5 c6 c7 ⟨c, cc1, Or.inl cc2⟩
theorem EZ2_tru {a b : Nat} {Q : Int32 × MS → Int32 × MS → Prop} {F1 F2 : Nat → Int32 × MS → Option (Int32 × MS)} (hb : b < 185000) (z1 : EZ a b σ1) (z2 : EZ a b σ2) {L1 L2 : Nat → Int32} (hF1 : F1 = fun _ v => some (0, v.2)) (hF2 : F2 = fun _ v => some (0, v.2)) (hQ : ∀ v1 v2 : MS, FE σ1 v1 → FE σ2 v2 → EZ a (b + 1) v1 → EZ a (b + 1) v2 → Q (0, v1) (0, v2)) : T2 (fun k => ob (x_truth k 0 L1 σ1) (fun r => ob (x_answer k 0 (upd (fun _ => 0) 1 r.1) r.2) (fun u => ob (x_push k 0 (upd (fun _ => 0) 1 u.1) u.2) (F1 k)))) (fun k => ob (x_truth k 0 L2 σ2) (fun r => ob (x_answer k 0 (upd (fun _ => 0) 1 r.1) r.2) (fun u => ob (x_push k 0 (upd (fun _ => 0) 1 u.1) u.2) (F2 k)))) Q := by
  subst hF1
  subst hF2
  refine T2_mono (T2_t (P1 := fun r => r.1 = 0 ∧ FE σ1 r.2 ∧ EZ a (b + 1) r.2) (P2 := fun r => r.1 = 0 ∧ FE σ2 r.2 ∧ EZ a (b + 1) r.2) (s_truZ hb z1 (fun v f z => Tm_some ⟨rfl, f, z⟩)) (s_truZ hb z2 (fun v f z => Tm_some ⟨rfl, f, z⟩))) (fun r1 r2 hr => ?_)
  obtain ⟨⟨a1, a2, a3⟩, b1, b2, b3⟩ := hr
  have e1 : r1 = (0, r1.2) := by rw [← a1]
  have e2 : r2 = (0, r2.2) := by rw [← b1]
  rw [e1, e2]
  exact hQ _ _ a2 b2 a3 b3
theorem PEg_of (hPE : ∀ e, e < d → PE T FN e) : PEg T FN d := by
  intro f O r K lc x t w XC σ1 σ2 L1 L2 hW hP hI d1 d2
  cases f with
  | zero => exact hW.elim
  | succ f =>
  unfold WN at hW
  rcases hW with ⟨z, _⟩ | ⟨_, n, xn, n70, hc⟩ | ⟨z, _⟩ | ⟨z, _⟩ | ⟨z, _⟩ | ⟨z, _⟩ | ⟨z, _⟩
  case inl => exact absurd z (by decide)
  case inr.inr.inl => exact absurd z (by decide)
  case inr.inr.inr.inl => exact absurd z (by decide)
  case inr.inr.inr.inr.inl => exact absurd z (by decide)
  case inr.inr.inr.inr.inr.inl => exact absurd z (by decide)
  case inr.inr.inr.inr.inr.inr => exact absurd z (by decide)
  obtain ⟨e, rfl⟩ : ∃ e, d = e + 1 := by
    obtain ⟨_, _, _, _, _, a6, _, _, _, _, _, _, _, c4⟩ := hP
    exact ⟨d - 1, by omega⟩
  have hXC := hP.2.1
  have hd13 := hP.2.2.2.2.1
  have ht := PC_t hP
  have hS1 := hP.1
  have hS2 := EI_ST hI hS1
  have tb : ∀ (τ1 τ2 : MS), FE σ1 τ1 → FE σ2 τ2 → ∀ a i, 4 ≤ a → a ≤ 9 → (1 ≤ i ∧ i < LNo T % 70001) → τ1.2.2 a i = T a i ∧ τ2.2.2 a i = T a i := fun τ1 τ2 f1 f2 a i h1 h2 h3 => ⟨(STb_fe hS1 f1).1 a i h1 (by omega) ⟨fun _ => h3, fun z => by omega⟩, (STb_fe hS2 f2).1 a i h1 (by omega) ⟨fun _ => h3, fun z => by omega⟩⟩
  rw [xn] at d1 d2
  refine T2_suc (fun k => e_goesOn_0 k _ _ _) (fun k => e_goesOn_0 k _ _ _) ?_
  rw [d1, d2]
  refine T2_chk (n_in (by omega) (by omega)) (n_in (by omega) (by omega)) ?_
  rw [n_cl (p := n) (by omega), hS1.1 4 _ (by omega) (by omega) (by omega), hS2.1 4 _ (by omega) (by omega) (by omega)]
  refine T2_ite Iff.rfl (fun _ _ => T2_some ⟨FE_rf, FE_rf, Or.inl ⟨w, Nat.le_refl _, hI⟩⟩) (fun y26 _ => ?_)
  obtain ⟨hop, ⟨O3, r3, lo3, W3⟩, hx4⟩ := hc.resolve_left y26
  have m1 : upd L1 2 (T 4 n) 1 = nI n := d1
  have m2 : upd L2 2 (T 4 n) 1 = nI n := d2
  have y1 : upd L1 2 (T 4 n) 2 = T 4 n := rfl
  have y2 : upd L2 2 (T 4 n) 2 = T 4 n := rfl
  generalize upd L1 2 (T 4 n) = N1 at m1 y1
  generalize upd L2 2 (T 4 n) = N2 at m2 y2
  -- evaluate an operand
  have ev : ∀ (O' r' : Nat) (z : Int32) (t' w' : Nat) (τ1 τ2 : MS) (M1 M2 : Nat → Int32), ((O' = O ∧ r' + 2 ≤ r) ∨ (O' < O ∧ r' ≤ 14)) → WN T FN f 0 O' r' K lc z → FE σ1 τ1 → w ≤ w' → t' ≤ t + 2 → EI t' w' XC τ1 τ2 → M1 1 = z → M2 1 = z → T2 (fun k => x_GV k e 4 0 M1 τ1) (fun k => x_GV k e 4 0 M2 τ2) (EQ (178000 + e) t' w' XC τ1 τ2) := fun O' r' z t' w' τ1 τ2 M1 M2 lo hW f1 hw ht' hJ q1 q2 => hPE e (by omega) f O' r' K lc z t' w' XC τ1 τ2 M1 M2 hW (PC_lo (PC_fe hP f1 hw (EI_w hJ)) lo (WN_r hW) ht' (by omega) (by omega)) hJ q1 q2
  -- a truth is put
  have c7I : ∀ (w' : Nat) (M1 M2 : Nat → Int32) (τ1 τ2 : MS), w ≤ w' → M1 3 = M2 3 → FE σ1 τ1 → FE σ2 τ2 → EI t w' XC τ1 τ2 → T2 (fun k => x_GV k (e + 1) 7 7 M1 τ1) (fun k => x_GV k (e + 1) 7 7 M2 τ2) (EQ (178000 + (e + 1)) t w XC σ1 σ2) := by
    intro w' M1 M2 τ1 τ2 hw q3 f1 f2 hJ
    refine T2_suc (fun k => e_goesOn_7 k _ _ _) (fun k => e_goesOn_7 k _ _ _) ?_
    refine E_tru (by omega) hJ q3 (fun v1 v2 k1 k2 h => T2_some ⟨FE_tr f1 k1, FE_tr f2 k2, ?_⟩)
    rcases h with ⟨w2, hw2, h⟩ | ⟨h1, h2⟩
    · exact Or.inl ⟨w2, by omega, h⟩
    · exact Or.inr ⟨EZ_mo h1 (Nat.le_refl _) (by omega), EZ_mo h2 (Nat.le_refl _) (by omega)⟩
  have c7Z : ∀ (M1 M2 : Nat → Int32) (τ1 τ2 : MS), FE σ1 τ1 → FE σ2 τ2 → EZ t (178000 + e) τ1 → EZ t (178000 + e) τ2 → T2 (fun k => x_GV k (e + 1) 7 7 M1 τ1) (fun k => x_GV k (e + 1) 7 7 M2 τ2) (EQ (178000 + (e + 1)) t w XC σ1 σ2) := by
    intro M1 M2 τ1 τ2 f1 f2 z1 z2
    refine T2_suc (fun k => e_goesOn_7 k _ _ _) (fun k => e_goesOn_7 k _ _ _) ?_
    exact EZ2_tru (by omega) z1 z2 rfl rfl (fun v1 v2 k1 k2 h1 h2 => ⟨FE_tr f1 k1, FE_tr f2 k2, Or.inr ⟨h1, h2⟩⟩)
  have c7 : ∀ (w' : Nat) (M1 M2 : Nat → Int32) (τ1 τ2 : MS), w ≤ w' → M1 3 = M2 3 → FE σ1 τ1 → FE σ2 τ2 → (EI t w' XC τ1 τ2 ∨ (EZ t (178000 + e) τ1 ∧ EZ t (178000 + e) τ2)) → T2 (fun k => x_GV k (e + 1) 7 7 M1 τ1) (fun k => x_GV k (e + 1) 7 7 M2 τ2) (EQ (178000 + (e + 1)) t w XC σ1 σ2) := fun w' M1 M2 τ1 τ2 hw q3 f1 f2 h => by
    rcases h with h | h
    · exact c7I w' M1 M2 τ1 τ2 hw q3 f1 f2 h
    · exact c7Z M1 M2 τ1 τ2 f1 f2 h.1 h.2
  have c6 : ∀ (w' : Nat) (M1 M2 : Nat → Int32) (τ1 τ2 : MS), w ≤ w' → M1 100 = M2 100 → FE σ1 τ1 → FE σ2 τ2 → (EI t w' XC τ1 τ2 ∨ (EZ t (178000 + e) τ1 ∧ EZ t (178000 + e) τ2)) → T2 (fun k => x_GV k (e + 1) 7 6 M1 τ1) (fun k => x_GV k (e + 1) 7 6 M2 τ2) (EQ (178000 + (e + 1)) t w XC σ1 σ2) := fun w' M1 M2 τ1 τ2 hw q f1 f2 h => by
    refine T2_suc (fun k => e_goesOn_6 k _ _ _) (fun k => e_goesOn_6 k _ _ _) ?_
    exact c7 w' _ _ τ1 τ2 hw q f1 f2 h
  have c5 : ∀ (w' : Nat) (M1 M2 : Nat → Int32) (τ1 τ2 : MS), w ≤ w' → FE σ1 τ1 → FE σ2 τ2 → (EI t w' XC τ1 τ2 ∨ (EZ t (178000 + e) τ1 ∧ EZ t (178000 + e) τ2)) → T2 (fun k => x_GV k (e + 1) 7 5 M1 τ1) (fun k => x_GV k (e + 1) 7 5 M2 τ2) (EQ (178000 + (e + 1)) t w XC σ1 σ2) := fun w' M1 M2 τ1 τ2 hw f1 f2 h => by
    refine T2_suc (fun k => e_goesOn_5 k _ _ _) (fun k => e_goesOn_5 k _ _ _) ?_
    exact c6 w' _ _ τ1 τ2 hw rfl f1 f2 h
  have zmo : ∀ {τ1 τ2 : MS}, EZ t t τ1 → EZ t t τ2 → EZ t (178000 + e) τ1 ∧ EZ t (178000 + e) τ2 := fun a b => ⟨EZ_mo a (Nat.le_refl _) (by omega), EZ_mo b (Nat.le_refl _) (by omega)⟩
  have c4 : ∀ (M1 M2 : Nat → Int32) (τ1 τ2 : MS), M1 1 = nI n → M2 1 = nI n → M1 3 = M2 3 → M1 100 = M2 100 → M1 101 = M2 101 → FE σ1 τ1 → FE σ2 τ2 → EI t w XC τ1 τ2 → T2 (fun k => x_GV k (e + 1) 7 4 M1 τ1) (fun k => x_GV k (e + 1) 7 4 M2 τ2) (EQ (178000 + (e + 1)) t w XC σ1 σ2) := by
    intro M1 M2 τ1 τ2 j1 l1 j3 j100 j101 f1 f2 hJ
    refine T2_suc (fun k => e_goesOn_4 k _ _ _) (fun k => e_goesOn_4 k _ _ _) ?_
    rw [j100, j101, j1, l1]
    refine T2_ite Iff.rfl (fun _ _ => ?_) (fun _ _ => c7I w M1 M2 τ1 τ2 (Nat.le_refl _) j3 f1 f2 hJ)
    refine T2_chk (n_in (by omega) (by omega)) (n_in (by omega) (by omega)) ?_
    rw [n_cl (p := n) (by omega), (tb τ1 τ2 f1 f2 7 _ (by omega) (by omega) (by omega)).1, (tb τ1 τ2 f1 f2 7 _ (by omega) (by omega) (by omega)).2]
    refine T2_od ?_
    refine T2_ob (ev O3 r3 (T 7 n) t w τ1 τ2 _ _ lo3 W3 f1 (Nat.le_refl _) (by omega) hJ rfl rfl) (fun r1 r2 hr => ?_)
    obtain ⟨g1, g2, hr⟩ := hr
    have h1 := FE_tr f1 g1
    have h2 := FE_tr f2 g2
    rcases hr with ⟨w2, hw2, hJ2⟩ | ⟨z1, z2⟩
    · obtain ⟨e1, e2⟩ := EI_e hJ2
      rw [e1, e2]
      refine T2_ite Iff.rfl (fun _ _ => ?_) (fun z _ => absurd rfl z)
      refine T2_ob (E_isTrue hXC (by omega) hJ2 _ _) (fun s1 s2 hs => ?_)
      obtain ⟨a1, a2, a3, a4, a5⟩ := hs
      have a5 : EI t w2 XC s1.2 s2.2 ∨ (EZ t (178000 + e) s1.2 ∧ EZ t (178000 + e) s2.2) := a5.imp id (fun z => zmo z.1 z.2.1)
      rw [a1]
      exact T2_ite Iff.rfl (fun _ _ => c5 w2 _ _ s1.2 s2.2 hw2 (FE_tr h1 a3) (FE_tr h2 a4) a5) (fun _ _ => c6 w2 _ _ s1.2 s2.2 hw2 rfl (FE_tr h1 a3) (FE_tr h2 a4) a5)
    · refine T2_ite ⟨fun z => absurd z (EZ_e z1), fun z => absurd z (EZ_e z2)⟩ (fun z _ => absurd z (EZ_e z1)) (fun _ _ => ?_)
      exact c5 w _ _ r1.2 r2.2 (Nat.le_refl _) h1 h2 (Or.inr ⟨z1, z2⟩)
  have c2 : T2 (fun k => x_GV k (e + 1) 7 2 N1 σ1) (fun k => x_GV k (e + 1) 7 2 N2 σ2) (EQ (178000 + (e + 1)) t w XC σ1 σ2) := by
    refine T2_suc (fun k => e_goesOn_2 k _ _ _) (fun k => e_goesOn_2 k _ _ _) ?_
    rw [y1, y2]
    refine T2_ob (E_isTrue hXC (by omega) hI _ _) (fun s1 s2 hs => ?_)
    obtain ⟨a1, a2, a3, a4, a5⟩ := hs
    rw [a1]
    rcases a5 with hJ | ⟨z1, z2, _⟩
    · obtain ⟨e1, e2⟩ := EI_e hJ
      rw [e1, e2]
      refine T2_ite Iff.rfl (fun _ _ => ?_) (fun z _ => absurd rfl z)
      refine T2_ite Iff.rfl (fun _ _ => c4 _ _ s1.2 s2.2 m1 m2 rfl rfl rfl a3 a4 hJ) (fun _ _ => ?_)
      refine T2_suc (fun k => e_goesOn_3 k _ _ _) (fun k => e_goesOn_3 k _ _ _) ?_
      exact c4 _ _ s1.2 s2.2 m1 m2 rfl rfl rfl a3 a4 hJ
    · refine T2_ite ⟨fun z => absurd z (EZ_e z1), fun z => absurd z (EZ_e z2)⟩ (fun z _ => absurd z (EZ_e z1)) (fun _ _ => ?_)
      exact c7Z _ _ s1.2 s2.2 a3 a4 (zmo z1 z2).1 (zmo z1 z2).2
  -- an operation
  have c9 : ∀ (mm w' : Nat) (M1 M2 : Nat → Int32) (τ1 τ2 : MS), (T 4 n = 22 → mm = 3) → (¬ T 4 n = 22 → mm = 2) → M1 1 = nI n → M2 1 = nI n → M1 2 = T 4 n → M2 2 = T 4 n → FE σ1 τ1 → FE σ2 τ2 → ((w ≤ w' ∧ EI (t + mm) w' XC τ1 τ2) ∨ (EZ t (178000 + e) τ1 ∧ EZ t (178000 + e) τ2)) → T2 (fun k => x_GV k (e + 1) 7 9 M1 τ1) (fun k => x_GV k (e + 1) 7 9 M2 τ2) (EQ (178000 + (e + 1)) t w XC σ1 σ2) := by
    intro mm w' M1 M2 τ1 τ2 hm3 hm2 j1 l1 j2 l2 f1 f2 h
    have hmm : 2 ≤ mm ∧ mm ≤ 3 := by
      by_cases c : T 4 n = 22
      · have := hm3 c; omega
      · have := hm2 c; omega
    refine T2_suc (fun k => e_goesOn_9 k _ _ _) (fun k => e_goesOn_9 k _ _ _) ?_
    rcases h with ⟨hw', hJ⟩ | ⟨z1, z2⟩
    case inr =>
      refine T2_ite ⟨fun z => absurd z (EZ_le z1), fun z => absurd z (EZ_le z2)⟩ (fun z _ => absurd z (EZ_le z1)) (fun _ _ => ?_)
      exact T2_some ⟨f1, f2, Or.inr ⟨EZ_mo z1 (Nat.le_refl _) (by omega), EZ_mo z2 (Nat.le_refl _) (by omega)⟩⟩
    obtain ⟨e1, e2⟩ := EI_e hJ
    rw [e1, e2]
    refine T2_ite Iff.rfl (fun _ _ => ?_) (fun z _ => absurd (by decide) z)
    refine T2_suc (fun k => e_goesOn_10 k _ _ _) (fun k => e_goesOn_10 k _ _ _) ?_
    rw [j2, l2]
    refine T2_ob (E_sw hXC (by omega) hJ) (fun r1 r2 hr => ?_)
    obtain ⟨k1, k2, g1, l1', B1, h1, X1, g2, l2', B2, h2, X2, hX, rm1, rm2⟩ := hr
    have ff1 := FE_tr f1 k1
    have ff2 := FE_tr f2 k2
    obtain ⟨a1, a2, aR, i1, i2, t1, q1, q2, w1, hw, x1, x2, ty, a95⟩ := hX
    have t2 : r2.2.1 59 = nI (t + mm) := (aR.2.2.1 59 (by unfold AlS; omega)).symm.trans t1
    -- the state with the operands above the top
    have hX' : EIx t w' XC (mSc r1.2 59 (nI t)) (mSc r2.2 59 (nI t)) g1 l1' B1 h1 X1 g2 l2' B2 h2 X2 := ⟨MI_59 (MI_mo a1 (by omega)), MI_59 (MI_mo a2 (by omega)), RA_59 (RA_mo (by omega) aR), IT_c rfl rfl rfl rfl i1, IT_c rfl rfl rfl rfl i2, rfl, q1, q2, w1, hw, x1, x2, ty, a95⟩
    have v0 := aR.1 29 t (Or.inl ⟨rfl, by omega⟩) (by unfold VwR; omega)
    have v1 := aR.1 29 (t + 1) (Or.inl ⟨rfl, by omega⟩) (by unfold VwR; omega)
    have g59 : FE σ1 (mSc r1.2 59 (nI t)) := FE_tr ff1 (FE_sc (Or.inr (Or.inr (Or.inl rfl))))
    have p59 : FE σ2 (mSc r2.2 59 (nI t)) := FE_tr ff2 (FE_sc (Or.inr (Or.inr (Or.inl rfl))))
    have tbl := tb _ _ g59 p59
    have v2 : mm = 3 → VC g1 g2 (r1.2.2.2 28) (r2.2.2.2 28) (r1.2.2.2 29 (t + 2)) (r2.2.2.2 29 (t + 2)) := fun c => aR.1 29 (t + 2) (Or.inl ⟨rfl, by omega⟩) (by unfold VwR; omega)
    -- behind the operation
    have c18 : ∀ (s1 s2 : Int32 × MS) (O1 O2 : Nat → Int32), O1 5 = s1.1 → O2 5 = s2.1 → (SO t w' XC g1 (mSc r1.2 59 (nI t)) s1 ∧ SO t w' XC g2 (mSc r2.2 59 (nI t)) s2 ∧ KS 8600 s1 s2 ∧ s1.2.1 95 = (mSc r1.2 59 (nI t)).1 95 ∧ s2.2.1 95 = (mSc r2.2 59 (nI t)).1 95) → T2 (fun k => x_GV k (e + 1) 7 18 O1 s1.2) (fun k => x_GV k (e + 1) 7 18 O2 s2.2) (EQ (178000 + (e + 1)) t w XC σ1 σ2) := by
      intro s1 s2 O1 O2 o5 p5 hs
      obtain ⟨c1, c2, c3, c4, c5⟩ := hs
      obtain ⟨b1, b2, bR, j1, j2, _, _, _, _, _, _, _, ⟨ty1, ty2⟩, a, z1, z2⟩ := hX'
      refine T2_suc (fun k => e_goesOn_18 k _ _ _) (fun k => e_goesOn_18 k _ _ _) ?_
      rw [o5, p5]
      refine E_ans b1 b2 bR j1 j2 (by omega) ty1 ty2 ⟨a, c4.trans z1, z2⟩ (c4.trans ((bR.2.2.1 95 (by unfold AlS; omega)).trans c5.symm)) c1 c2 c3 (fun v1 v2 k1 k2 h => T2_some ⟨FE_tr g59 k1, FE_tr p59 k2, ?_⟩)
      rcases h with ⟨w2, hw2, h⟩ | ⟨h1, h2⟩
      · exact Or.inl ⟨w2, by omega, h⟩
      · exact Or.inr ⟨EZ_mo h1 (Nat.le_refl _) (by omega), EZ_mo h2 (Nat.le_refl _) (by omega)⟩
    generalize hr1 : mSc r1.2 59 (nI t) = ρ1 at hX' g59 tbl c18
    generalize hr2 : mSc r2.2 59 (nI t) = ρ2 at hX' p59 tbl c18
    have c28 : ρ1.2.2 = r1.2.2.2 := by rw [← hr1]; rfl
    have d28 : ρ2.2.2 = r2.2.2.2 := by rw [← hr2]; rfl
    rw [← c28, ← d28] at v0 v1 v2
    have hX0 := hX'
    obtain ⟨b1, b2, bR, _, _, u1, o1, o2, _, _, _, _, _, _⟩ := hX'
    have u2 : ρ2.1 59 = nI t := (bR.2.2.1 59 (by unfold AlS; omega)).symm.trans u1
    have P1 : VP g1 l1' B1 h1 t ρ1 := ⟨b1.1, u1, by omega, ⟨0, o1, by decide⟩⟩
    have P2 : VP g2 l2' B2 h2 t ρ2 := ⟨b2.1, u2, by omega, ⟨0, o2, by decide⟩⟩
    have v0' := v0
    have v1' := v1
    obtain ⟨va, vb, va1, va2, va3, va4, va5, va6, va7⟩ := v0'
    obtain ⟨vc, vd, vc1, vc2, vc3, vc4, vc5, vc6, vc7⟩ := v1'
    have c13 : ∀ O1 O2 : Nat → Int32, O1 1 = nI n → O2 1 = nI n → O1 2 = T 4 n → O2 2 = T 4 n → T2 (fun k => x_GV k (e + 1) 7 13 O1 ρ1) (fun k => x_GV k (e + 1) 7 13 O2 ρ2) (EQ (178000 + (e + 1)) t w XC σ1 σ2) := by
      intro O1 O2 q1 q2 q3 q4
      refine T2_suc (fun k => e_goesOn_13 k _ _ _) (fun k => e_goesOn_13 k _ _ _) ?_
      rw [u1, u2, q3, q4, n_add1]
      refine T2_chk (n_in (by omega) (by omega)) (n_in (by omega) (by omega)) ?_
      refine T2_chk (n_in (by omega) (by omega)) (n_in (by omega) (by omega)) ?_
      rw [n_cl (p := t) (by omega), n_cl (p := t + 1) (by omega), va1, va3, vc1, vc3]
      refine T2_ite Iff.rfl (fun _ _ => ?_) (fun _ _ => ?_)
      · refine T2_suc (fun k => e_goesOn_15 k _ _ _) (fun k => e_goesOn_15 k _ _ _) ?_
        exact T2_ob (E_op hX0 (s_partAt P1 va2 vc2 rfl rfl) (s_partAt P2 va4 vc4 rfl rfl) (fun n => k_partAt b1.1 b2.1 o1 o2 (by omega) (by omega) va2 va4 va5 vc2 vc4 vc5 rfl rfl rfl rfl) (fun k => wl_partAt k _ _ _) (fun k => wl_partAt k _ _ _) (c := 8600) (by omega)) (fun s1 s2 hs => c18 s1 s2 _ _ rfl rfl hs)
      refine T2_ite Iff.rfl (fun y22 _ => ?_) (fun _ _ => ?_)
      · refine T2_suc (fun k => e_goesOn_14 k _ _ _) (fun k => e_goesOn_14 k _ _ _) ?_
        rw [u1, u2, show nI t + 2 = nI (t + 2) from n_add (q := 2) (by omega)]
        refine T2_chk (n_in (by omega) (by omega)) (n_in (by omega) (by omega)) ?_
        obtain ⟨ve, vf, ve1, ve2, ve3, ve4, ve5, ve6, ve7⟩ := v2 (hm3 y22)
        rw [n_cl (p := t + 2) (by omega), ve1, ve3]
        refine T2_ob (E_op hX0 (s_slice P1 va2 vc2 ve2 rfl rfl rfl) (s_slice P2 va4 vc4 ve4 rfl rfl rfl) (fun n => k_slice b1.1 b2.1 o1 o2 u1 u2 (by omega) (by omega) (by omega) va2 va4 va5 vc2 vc4 vc5 ve2 ve4 ve5 rfl rfl rfl rfl rfl rfl (fun i hi => ?_)) (fun k => wl_slice k _ _ _) (fun k => wl_slice k _ _ _) (c := 8600) (by omega)) (fun s1 s2 hs => c18 s1 s2 _ _ rfl rfl hs)
        rw [upd_other (by omega), upd_other (by omega), upd_other (by omega), upd_other (by omega), upd_other (by omega), upd_other (by omega)]
      refine T2_ite Iff.rfl (fun _ _ => ?_) (fun _ _ => ?_)
      · refine T2_suc (fun k => e_goesOn_16 k _ _ _) (fun k => e_goesOn_16 k _ _ _) ?_
        exact T2_ob (E_op hX0 (s_image P1 va2 vc2 rfl rfl) (s_image P2 va4 vc4 rfl rfl) (fun n => k_image b1.1 b2.1 o1 o2 u1 u2 (by omega) (by omega) (by omega) va2 va4 va5 vc2 vc4 vc5 rfl rfl rfl rfl) (fun k => wl_image k _ _ _) (fun k => wl_image k _ _ _) (c := 8600) (by omega)) (fun s1 s2 hs => c18 s1 s2 _ _ rfl rfl hs)
      · refine T2_suc (fun k => e_goesOn_17 k _ _ _) (fun k => e_goesOn_17 k _ _ _) ?_
        have z1 : (upd (upd (upd O1 3 (nI va)) 4 (nI vc)) 5 0) 1 = nI n := q1
        have z2 : (upd (upd (upd O2 3 (nI vb)) 4 (nI vd)) 5 0) 1 = nI n := q2
        rw [z1, z2]
        refine T2_chk (n_in (by omega) (by omega)) (n_in (by omega) (by omega)) ?_
        rw [n_cl (p := n) (by omega), (tbl 5 _ (by omega) (by omega) (by omega)).1, (tbl 5 _ (by omega) (by omega) (by omega)).2]
        refine T2_ob (E_op hX0 (s_operate P1 va2 vc2 rfl rfl) (s_operate P2 va4 vc4 rfl rfl) (fun n => k_operate b1.1 b2.1 o1 o2 u1 u2 (by omega) (by omega) (by omega) va2 va4 va5 vc2 vc4 vc5 rfl rfl rfl rfl rfl (fun i hi => ?_)) (fun k => wl_operate k _ _ _) (fun k => wl_operate k _ _ _) (c := 8600) (by omega)) (fun s1 s2 hs => c18 s1 s2 _ _ rfl rfl hs)
        rw [upd_other (by omega), upd_other (by omega), upd_other (by omega), upd_other (by omega), upd_other (by omega), upd_other (by omega)]
    have c12 : ∀ O1 O2 : Nat → Int32, O1 1 = nI n → O2 1 = nI n → O1 2 = T 4 n → O2 2 = T 4 n → O1 101 - O1 100 = nI t → O2 101 - O2 100 = nI t → T2 (fun k => x_GV k (e + 1) 7 12 O1 r1.2) (fun k => x_GV k (e + 1) 7 12 O2 r2.2) (EQ (178000 + (e + 1)) t w XC σ1 σ2) := by
      intro O1 O2 q1 q2 q3 q4 q5 q6
      refine T2_suc (fun k => e_goesOn_12 k _ _ _) (fun k => e_goesOn_12 k _ _ _) ?_
      rw [q5, q6]
      show T2 (fun k => x_GV k (e + 1) 7 13 O1 (mSc r1.2 59 (nI t))) (fun k => x_GV k (e + 1) 7 13 O2 (mSc r2.2 59 (nI t))) _
      rw [hr1, hr2]
      exact c13 O1 O2 q1 q2 q3 q4
    rw [t1, t2]
    refine T2_ite Iff.rfl (fun y22 _ => ?_) (fun y22 _ => ?_)
    · have e3 : nI (t + mm) - 3 = nI t := by
        rw [hm3 y22]
        exact (n_sub (p := t + 3) (q := 3) (by omega) (by omega)).trans (by rw [Nat.add_sub_cancel])
      exact c12 _ _ j1 l1 j2 l2 e3 e3
    · have e3 : nI (t + mm) - 2 = nI t := by
        rw [hm2 y22]
        exact (n_sub (p := t + 2) (q := 2) (by omega) (by omega)).trans (by rw [Nat.add_sub_cancel])
      refine T2_suc (fun k => e_goesOn_11 k _ _ _) (fun k => e_goesOn_11 k _ _ _) ?_
      exact c12 _ _ j1 l1 j2 l2 e3 e3
  have c8 : T2 (fun k => x_GV k (e + 1) 7 8 N1 σ1) (fun k => x_GV k (e + 1) 7 8 N2 σ2) (EQ (178000 + (e + 1)) t w XC σ1 σ2) := by
    refine T2_suc (fun k => e_goesOn_8 k _ _ _) (fun k => e_goesOn_8 k _ _ _) ?_
    rw [m1, m2, y1, y2]
    refine T2_chk (n_in (by omega) (by omega)) (n_in (by omega) (by omega)) ?_
    rw [n_cl (p := n) (by omega), hS1.1 7 _ (by omega) (by omega) (by omega), hS2.1 7 _ (by omega) (by omega) (by omega)]
    refine T2_od ?_
    refine T2_ob (ev O3 r3 (T 7 n) (t + 1) w σ1 σ2 _ _ lo3 W3 FE_rf (Nat.le_refl _) (by omega) hI rfl rfl) (fun r1 r2 hr => ?_)
    obtain ⟨f1, f2, hr⟩ := hr
    refine T2_ite Iff.rfl (fun y22 _ => ?_) (fun y22 _ => ?_)
    · rcases hr with ⟨w2, hw2, hJ⟩ | ⟨z1, z2⟩
      · obtain ⟨e1, e2⟩ := EI_e hJ
        rw [e1, e2]
        refine T2_ite Iff.rfl (fun _ _ => ?_) (fun z _ => absurd rfl z)
        refine T2_chk (n_in3 (by omega) (by omega)) (n_in3 (by omega) (by omega)) ?_
        rw [(tb _ _ f1 f2 8 _ (by omega) (by omega) (by omega)).1, (tb _ _ f1 f2 8 _ (by omega) (by omega) (by omega)).2]
        obtain ⟨O4, r4, lo4, W4⟩ := hx4 y22
        refine T2_od ?_
        refine T2_ob (ev O4 r4 (T 8 n) (t + 2) w2 r1.2 r2.2 _ _ lo4 W4 f1 hw2 (by omega) hJ rfl rfl) (fun s1 s2 hs => ?_)
        obtain ⟨k1, k2, hs⟩ := hs
        rcases hs with ⟨w3, hw3, hJ3⟩ | ⟨z1, z2⟩
        · exact c9 3 w3 _ _ s1.2 s2.2 (fun _ => rfl) (fun c => absurd y22 c) m1 m2 y1 y2 (FE_tr f1 k1) (FE_tr f2 k2) (Or.inl ⟨by omega, hJ3⟩)
        · exact c9 3 w _ _ s1.2 s2.2 (fun _ => rfl) (fun c => absurd y22 c) m1 m2 y1 y2 (FE_tr f1 k1) (FE_tr f2 k2) (Or.inr ⟨EZ_mo z1 (by omega) (Nat.le_refl _), EZ_mo z2 (by omega) (Nat.le_refl _)⟩)
      · refine T2_ite ⟨fun z => absurd z (EZ_e z1), fun z => absurd z (EZ_e z2)⟩ (fun z _ => absurd z (EZ_e z1)) (fun _ _ => ?_)
        exact c9 3 w _ _ r1.2 r2.2 (fun _ => rfl) (fun c => absurd y22 c) m1 m2 y1 y2 f1 f2 (Or.inr ⟨EZ_mo z1 (by omega) (Nat.le_refl _), EZ_mo z2 (by omega) (Nat.le_refl _)⟩)
    · rcases hr with ⟨w2, hw2, hJ⟩ | ⟨z1, z2⟩
      · exact c9 2 w2 _ _ r1.2 r2.2 (fun c => absurd c y22) (fun _ => rfl) m1 m2 y1 y2 f1 f2 (Or.inl ⟨hw2, hJ⟩)
      · exact c9 2 w _ _ r1.2 r2.2 (fun c => absurd c y22) (fun _ => rfl) m1 m2 y1 y2 f1 f2 (Or.inr ⟨EZ_mo z1 (by omega) (Nat.le_refl _), EZ_mo z2 (by omega) (Nat.le_refl _)⟩)
  refine T2_suc (fun k => e_goesOn_1 k _ _ _) (fun k => e_goesOn_1 k _ _ _) ?_
  rw [y1, y2]
  refine T2_ite Iff.rfl (fun _ _ => c2) (fun _ _ => ?_)
  exact T2_ite Iff.rfl (fun _ _ => c2) (fun _ _ => c8)
end EGO
end JnS203
section JnS204
/-! Evaluation on both sides (reference): numbers, strings, atoms, variables, single operations, conditions, ranges. -/
/-- owed: all good wholes have good signs -/
def SGN : Prop := ∀ (g : Nat → Prop) (l : List Nat) (B h : Nat) (σ : MS), HS g l B h σ → ∀ a p, g a → kdN (σ.2.2 28) a = 2 → Wh σ a p → SgOK (σ.2.2 28) a p
theorem SGN_t : SGN := fun _ _ _ _ _ _ _ _ _ _ hW => hW.2.2.2.2.2
section EBG
variable {T : Nat → Nat → Int32} {FN : Nat → Nat → Prop} {O r K d t w XC : Nat} {lc : Nat → Prop} {σ1 σ2 : MS}
theorem EQ_mo {b b' : Nat} {r1 r2 : Int32 × MS} (h : EQ b t w XC σ1 σ2 r1 r2) (hb : b ≤ b') : EQ b' t w XC σ1 σ2 r1 r2 := ⟨h.1, h.2.1, h.2.2.imp id (fun z => ⟨EZ_mo z.1 (Nat.le_refl _) hb, EZ_mo z.2 (Nat.le_refl _) hb⟩)⟩
/-- behind an answer -/
theorem EQ_ans {b : Nat} {ρ1 ρ2 : MS} {w' : Nat} {v1 v2 : Int32 × MS} (f1 : FE σ1 ρ1) (f2 : FE σ2 ρ2) (hw : w ≤ w') (hb : t + 2001 ≤ b) (k1 : FE ρ1 v1.2) (k2 : FE ρ2 v2.2) (h : (∃ w2, w' ≤ w2 ∧ EI (t + 1) w2 XC v1.2 v2.2) ∨ (EZ t (t + 2001) v1.2 ∧ EZ t (t + 2001) v2.2)) : EQ b t w XC σ1 σ2 (0, v1.2) (0, v2.2) := by
  refine ⟨FE_tr f1 k1, FE_tr f2 k2, ?_⟩
  rcases h with ⟨w2, hw2, h⟩ | ⟨h1, h2⟩
  · exact Or.inl ⟨w2, by omega, h⟩
  · exact Or.inr ⟨EZ_mo h1 (Nat.le_refl _) hb, EZ_mo h2 (Nat.le_refl _) hb⟩
/-- sweep, an operation, its answer -/
theorem E_sop {b KK : Nat} {Y1 Y2 : Nat → MS → Option (Int32 × MS)} (hXC : XC ≤ 408500) (ht : t ≤ 176000 ∧ KK ≤ 71000) (hb : t + 2001 ≤ b) (hI : EI t w XC σ1 σ2) (hv : ∀ (ρ1 ρ2 : MS) (g1 : Nat → Prop) (l1 : List Nat) (B1 h1 X1 : Nat) (g2 : Nat → Prop) (l2 : List Nat) (B2 h2 X2 : Nat), FE σ1 ρ1 → FE σ2 ρ2 → EIx t w XC ρ1 ρ2 g1 l1 B1 h1 X1 g2 l2 B2 h2 X2 → h1 + 79900 ≤ B1 + 870000 → h2 + 79900 ≤ B2 + 870000 → VP g1 l1 B1 h1 t ρ1 → VP g2 l2 B2 h2 t ρ2 → Tm (fun k => Y1 k ρ1) (VO g1 B1 h1 t ρ1) ∧ Tm (fun k => Y2 k ρ2) (VO g2 B2 h2 t ρ2) ∧ (∀ n, Pm n (fun k => Y1 k ρ1) (fun k => Y2 k ρ2) (KQ h1 h2 KK)) ∧ (∀ k, Wk (Y1 k ρ1) ρ1.2.1) ∧ (∀ k, Wk (Y2 k ρ2) ρ2.2.1)) : T2 (fun k => ob (x_sweep k 0 (upd (fun _ => 0) 1 780000) σ1) (fun r1 => ob (Y1 k r1.2) (fun r4 => ob (x_answer k 0 (upd (fun _ => 0) 1 r4.1) r4.2) (fun r5 => ob (x_push k 0 (upd (fun _ => 0) 1 r5.1) r5.2) (fun r6 => some (0, r6.2)))))) (fun k => ob (x_sweep k 0 (upd (fun _ => 0) 1 780000) σ2) (fun r1 => ob (Y2 k r1.2) (fun r4 => ob (x_answer k 0 (upd (fun _ => 0) 1 r4.1) r4.2) (fun r5 => ob (x_push k 0 (upd (fun _ => 0) 1 r5.1) r5.2) (fun r6 => some (0, r6.2)))))) (EQ b t w XC σ1 σ2) := by
  refine T2_ob (E_sw hXC (by omega) hI) (fun r1 r2 hr => ?_)
  obtain ⟨k1, k2, g1, l1, B1, h1, X1, g2, l2, B2, h2, X2, hX, rm1, rm2⟩ := hr
  have hX0 := hX
  obtain ⟨a1, a2, aR, i1, i2, t1, q1, q2, w1, hw, x1, x2, ⟨ty1, ty2⟩, a, z1, z2⟩ := hX
  have t2 : r2.2.1 59 = nI t := (aR.2.2.1 59 (by unfold AlS; omega)).symm.trans t1
  obtain ⟨p1, p2, p3, p4, p5⟩ := hv r1.2 r2.2 g1 l1 B1 h1 X1 g2 l2 B2 h2 X2 k1 k2 hX0 rm1 rm2 ⟨a1.1, t1, by omega, ⟨0, q1, by decide⟩⟩ ⟨a2.1, t2, by omega, ⟨0, q2, by decide⟩⟩
  refine T2_ob (E_op (c := 8600) hX0 p1 p2 p3 p4 p5 (by omega)) (fun s1 s2 hs => ?_)
  obtain ⟨c1, c2, c3, c4, c5⟩ := hs
  exact E_ans a1 a2 aR i1 i2 (by omega) ty1 ty2 ⟨a, c4.trans z1, z2⟩ (c4.trans ((aR.2.2.1 95 (by unfold AlS; omega)).trans c5.symm)) c1 c2 c3 (fun v1 v2 f1 f2 h => T2_some (EQ_ans k1 k2 (Nat.le_refl _) hb f1 f2 h))
theorem b_num {n p q : Nat} (hP : PC T FN O r K lc d t w XC σ1) (hI : EI t w XC σ1 σ2) (hn : (1 ≤ n ∧ n < LNo T % 70001)) (x5 : T 5 n = nI p) (x6 : T 6 n = nI q) (hq : q ≤ 60) (hpq : p + q ≤ LPo T % 70001) (hd : ∀ i, i < q → ∃ c, c ≤ 300 ∧ T 12 (p + i) = nI c) {b e : Nat} (hb : 178000 ≤ b) {L1 L2 : Nat → Int32} (d1 : L1 1 = nI n) (d2 : L2 1 = nI n) : T2 (fun k => x_GV k e 0 2 L1 σ1) (fun k => x_GV k e 0 2 L2 σ2) (EQ b t w XC σ1 σ2) := by
  have ht := PC_t hP
  have hS1 := hP.1
  have hS2 := EI_ST hI hS1
  refine T2_suc (fun k => e_begins_2 k _ _ _) (fun k => e_begins_2 k _ _ _) ?_
  rw [d1, d2]
  have hin : ¬ (nI n < 0 ∨ 70000 ≤ (nI n).toNatClampNeg) := n_in (by omega) (by omega)
  have key := E_sop (KK := 70) (Y1 := fun k (ρ : MS) => if ¬ (nI n < 0 ∨ 70000 ≤ (nI n).toNatClampNeg) then (if ¬ (nI n < 0 ∨ 70000 ≤ (nI n).toNatClampNeg) then x_literal k 0 (upd (upd (fun _ => 0) 1 (ρ.2.2 5 (nI n).toNatClampNeg)) 2 (ρ.2.2 6 (nI n).toNatClampNeg)) ρ else none) else none) (Y2 := fun k (ρ : MS) => if ¬ (nI n < 0 ∨ 70000 ≤ (nI n).toNatClampNeg) then (if ¬ (nI n < 0 ∨ 70000 ≤ (nI n).toNatClampNeg) then x_literal k 0 (upd (upd (fun _ => 0) 1 (ρ.2.2 5 (nI n).toNatClampNeg)) 2 (ρ.2.2 6 (nI n).toNatClampNeg)) ρ else none) else none) hP.2.1 (by omega) (show t + 2001 ≤ b by omega) hI (fun ρ1 ρ2 g1 l1 B1 h1 X1 g2 l2 B2 h2 X2 f1 f2 hX rm1 rm2 P1 P2 => by
    have s1 := STb_fe hS1 f1
    have s2 := STb_fe hS2 f2
    simp only [if_pos hin]
    rw [n_cl (p := n) (by omega), s1.1 5 _ (by omega) (by omega) (by omega), s1.1 6 _ (by omega) (by omega) (by omega), s2.1 5 _ (by omega) (by omega) (by omega), s2.1 6 _ (by omega) (by omega) (by omega), x5, x6]
    have dg1 : ∀ i, i < q → ∃ c, c ≤ 300 ∧ ρ1.2.2 12 (p + i) = nI c := fun i hi => by rw [s1.2.2.1 _ (by omega)]; exact hd i hi
    have dg2 : ∀ i, i < q → ∃ c, c ≤ 300 ∧ ρ2.2.2 12 (p + i) = nI c := fun i hi => by rw [s2.2.2.1 _ (by omega)]; exact hd i hi
    obtain ⟨_, _, _, _, _, _, q1, q2, _⟩ := hX
    exact ⟨s_literal P1 hq (by omega) dg1 rfl rfl, s_literal P2 hq (by omega) dg2 rfl rfl, fun n' => k_literal P1.1 P2.1 q1 q2 (by omega) (by omega) (show p + q ≤ 70000 by omega) (fun i hi => by rw [s1.2.2.1 _ (by omega), s2.2.2.1 _ (by omega)]) (fun i hi => rfl) rfl rfl, fun k => wl_literal k _ _ _, fun k => wl_literal k _ _ _⟩)
  have sim : ∀ (k : Nat) (r1 : Int32 × MS) (G : Int32 × MS → Option (Int32 × MS)), (if ¬ (nI n < 0 ∨ 70000 ≤ (nI n).toNatClampNeg) then (if ¬ (nI n < 0 ∨ 70000 ≤ (nI n).toNatClampNeg) then ob (x_literal k 0 (upd (upd (fun _ => 0) 1 (r1.2.2.2 5 (nI n).toNatClampNeg)) 2 (r1.2.2.2 6 (nI n).toNatClampNeg)) r1.2) G else none) else none) = ob (if ¬ (nI n < 0 ∨ 70000 ≤ (nI n).toNatClampNeg) then (if ¬ (nI n < 0 ∨ 70000 ≤ (nI n).toNatClampNeg) then x_literal k 0 (upd (upd (fun _ => 0) 1 (r1.2.2.2 5 (nI n).toNatClampNeg)) 2 (r1.2.2.2 6 (nI n).toNatClampNeg)) r1.2 else none) else none) G := fun k r1 G => by simp only [if_pos hin]
  simp only [sim]
  exact key
theorem b_str {n p q : Nat} (hP : PC T FN O r K lc d t w XC σ1) (hI : EI t w XC σ1 σ2) (hn : (1 ≤ n ∧ n < LNo T % 70001)) (x5 : T 5 n = nI p) (x6 : T 6 n = nI q) (hq : q ≤ 60000) (hpq : p + q ≤ 70000) (hpl : q = 0 ∨ p + q ≤ LPo T % 70001) {b e : Nat} (hb : 178000 ≤ b) {L1 L2 : Nat → Int32} (d1 : L1 1 = nI n) (d2 : L2 1 = nI n) : T2 (fun k => x_GV k e 0 3 L1 σ1) (fun k => x_GV k e 0 3 L2 σ2) (EQ b t w XC σ1 σ2) := by
  have ht := PC_t hP
  have hS1 := hP.1
  have hS2 := EI_ST hI hS1
  refine T2_suc (fun k => e_begins_3 k _ _ _) (fun k => e_begins_3 k _ _ _) ?_
  rw [d1, d2]
  have hin : ¬ (nI n < 0 ∨ 70000 ≤ (nI n).toNatClampNeg) := n_in (by omega) (by omega)
  have key := E_sop (KK := 4004) (Y1 := fun k (ρ : MS) => if ¬ (nI n < 0 ∨ 70000 ≤ (nI n).toNatClampNeg) then (if ¬ (nI n < 0 ∨ 70000 ≤ (nI n).toNatClampNeg) then x_stringOf__12 k 0 (upd (upd (fun _ => 0) 2 (ρ.2.2 5 (nI n).toNatClampNeg)) 3 (ρ.2.2 6 (nI n).toNatClampNeg)) ρ else none) else none) (Y2 := fun k (ρ : MS) => if ¬ (nI n < 0 ∨ 70000 ≤ (nI n).toNatClampNeg) then (if ¬ (nI n < 0 ∨ 70000 ≤ (nI n).toNatClampNeg) then x_stringOf__12 k 0 (upd (upd (fun _ => 0) 2 (ρ.2.2 5 (nI n).toNatClampNeg)) 3 (ρ.2.2 6 (nI n).toNatClampNeg)) ρ else none) else none) hP.2.1 (by omega) (show t + 2001 ≤ b by omega) hI (fun ρ1 ρ2 g1 l1 B1 h1 X1 g2 l2 B2 h2 X2 f1 f2 hX rm1 rm2 P1 P2 => by
    have s1 := STb_fe hS1 f1
    have s2 := STb_fe hS2 f2
    simp only [if_pos hin]
    rw [n_cl (p := n) (by omega), s1.1 5 _ (by omega) (by omega) (by omega), s1.1 6 _ (by omega) (by omega) (by omega), s2.1 5 _ (by omega) (by omega) (by omega), s2.1 6 _ (by omega) (by omega) (by omega), x5, x6]
    obtain ⟨_, _, _, _, _, _, q1, q2, _⟩ := hX
    exact ⟨s_stringOf12 P1 hq (fun _ => hpq) rfl rfl, s_stringOf12 P2 hq (fun _ => hpq) rfl rfl, fun n' => k_stringOf12 P1.1 P2.1 q1 q2 (by omega) (by omega) hq (fun _ => hpq) (fun _ => hpq) (fun i hi => by rw [s1.2.2.1 _ (by omega), s2.2.2.1 _ (by omega)]) rfl rfl rfl rfl, fun k => wl_stringOf__12 k _ _ _, fun k => wl_stringOf__12 k _ _ _⟩)
  have sim : ∀ (k : Nat) (r1 : Int32 × MS) (G : Int32 × MS → Option (Int32 × MS)), (if ¬ (nI n < 0 ∨ 70000 ≤ (nI n).toNatClampNeg) then (if ¬ (nI n < 0 ∨ 70000 ≤ (nI n).toNatClampNeg) then ob (x_stringOf__12 k 0 (upd (upd (fun _ => 0) 2 (r1.2.2.2 5 (nI n).toNatClampNeg)) 3 (r1.2.2.2 6 (nI n).toNatClampNeg)) r1.2) G else none) else none) = ob (if ¬ (nI n < 0 ∨ 70000 ≤ (nI n).toNatClampNeg) then (if ¬ (nI n < 0 ∨ 70000 ≤ (nI n).toNatClampNeg) then x_stringOf__12 k 0 (upd (upd (fun _ => 0) 2 (r1.2.2.2 5 (nI n).toNatClampNeg)) 3 (r1.2.2.2 6 (nI n).toNatClampNeg)) r1.2 else none) else none) G := fun k r1 G => by simp only [if_pos hin]
  simp only [sim]
  exact key
/-- a variable is read: the same place on both sides -/
theorem E_val {n s : Nat} {g1 g2 : Nat → Prop} {l1 l2 : List Nat} {B1 h1 X1 B2 h2 X2 : Nat} (hS1 : STb T FN σ1) (hX : EIx t w XC σ1 σ2 g1 l1 B1 h1 X1 g2 l2 B2 h2 X2) {fu dp e : Nat} (hC : Cx lc fu dp e σ1) (hn : (1 ≤ n ∧ n < LNo T % 70001)) (x6 : T 6 n = nI s) (hs : s < 60) (x5 : T 5 n = 0 ∨ lc 0) {L1 L2 : Nat → Int32} (d1 : L1 1 = nI n) (d2 : L2 1 = nI n) : ∃ a i, RtP t σ1 a i ∧ (a = 30 ∨ a = 33) ∧ (a = 30 → 4 ≤ i ∧ i < 3214 ∧ ¬ (64 ≤ i ∧ i < 214)) ∧ (a = 33 → i < 1380) ∧ T2 (fun k => x_valueOf k 0 L1 σ1) (fun k => x_valueOf k 0 L2 σ2) (fun r1 r2 => r1 = (σ1.2.2 a i, σ1) ∧ r2 = (σ2.2.2 a i, σ2)) := by
  obtain ⟨m1, m2, hR, _⟩ := hX
  have hS2 := STb_ra hR hS1
  obtain ⟨c67, cfu, _, _, _, ⟨c, c1, c2, c3⟩, c4⟩ := hC
  have hfb := fb_le cfu
  have al : ∀ j, AlS j → σ2.1 j = σ1.1 j := fun j h => (hR.2.2.1 j h).symm
  have a69 := al 69 (by unfold AlS; omega)
  have a68 := al 68 (by unfold AlS; omega)
  have b1 : σ2.2.2 30 1 = nI c := (hR.2.1 30 1 (by unfold AlR; omega) (by unfold Zn; omega) (InA_4 (by omega))).symm.trans c1
  have hin : ¬ (nI n < 0 ∨ 70000 ≤ (nI n).toNatClampNeg) := n_in (by omega) (by omega)
  have bl : ∀ (i : Nat) (Q : Int32 × MS → Int32 × MS → Prop) (r1 r2 : Int32 × MS) (N1 N2 : Nat → Int32) (k0 : Nat), N1 100 = r1.1 → N2 100 = r2.1 → Q (r1.1, r1.2) (r2.1, r2.2) → T2 (fun k => x_valueOf k 3 N1 r1.2) (fun k => x_valueOf k 3 N2 r2.2) Q := fun i Q r1 r2 N1 N2 k0 h1 h2 hQ => by
    refine T2_suc (fun k => by rw [x_valueOf]) (fun k => by rw [x_valueOf]) ?_
    rw [h1, h2]
    exact T2_some hQ
  by_cases z5 : T 5 n = 0
  · refine ⟨30, 4 + s, Or.inr (Or.inl ⟨rfl, Or.inl ⟨by omega, by omega⟩⟩), Or.inl rfl, fun _ => ⟨by omega, by omega, by omega⟩, fun z => by omega, ?_⟩
    refine T2_suc (fun k => by rw [x_valueOf]) (fun k => by rw [x_valueOf]) ?_
    rw [d1, d2]
    refine T2_chk hin hin ?_
    rw [n_cl (p := n) (by omega), hS1.1 5 _ (by omega) (by omega) (by omega), hS2.1 5 _ (by omega) (by omega) (by omega), hS1.1 6 _ (by omega) (by omega) (by omega), hS2.1 6 _ (by omega) (by omega) (by omega), x6, show (4 : Int32) + nI s = nI (4 + s) from n_add (p := 4) (by omega)]
    refine T2_ite Iff.rfl (fun _ _ => ?_) (fun z _ => absurd z5 z)
    refine T2_chk (n_in3 (by omega) (by omega)) (n_in3 (by omega) (by omega)) ?_
    refine T2_chk (n_in (by omega) (by omega)) (n_in (by omega) (by omega)) ?_
    rw [n_cl (p := 4 + s) (by omega)]
    exact T2_some ⟨rfl, rfl⟩
  have hlc : lc 0 := x5.resolve_left z5
  rcases c4 with z69 | ⟨z69, z68⟩
  · have hc1 : 1 ≤ c := by
      rcases c3.1 hlc with y | y
      · rw [y] at z69; exact absurd z69 (by decide)
      · exact y.2
    refine ⟨30, 214 + 60 * (c - 1) + s, Or.inr (Or.inl ⟨rfl, Or.inr (Or.inl ⟨by omega, ?_⟩)⟩), Or.inl rfl, fun _ => ⟨by omega, by omega, by omega⟩, fun z => by omega, ?_⟩
    · show 214 + 60 * (c - 1) + s < 0 + 214 + 60 * (σ1.2.2 30 1).toNatClampNeg
      rw [c1, n_cl (p := c) (by omega)]; omega
    refine T2_suc (fun k => by rw [x_valueOf]) (fun k => by rw [x_valueOf]) ?_
    rw [d1, d2]
    refine T2_chk hin hin ?_
    rw [n_cl (p := n) (by omega), hS1.1 5 _ (by omega) (by omega) (by omega), hS2.1 5 _ (by omega) (by omega) (by omega)]
    refine T2_ite Iff.rfl (fun z _ => absurd z z5) (fun _ _ => ?_)
    refine T2_suc (fun k => by rw [x_valueOf]) (fun k => by rw [x_valueOf]) ?_
    rw [a69, z69]
    refine T2_ite Iff.rfl (fun _ _ => ?_) (fun z _ => absurd rfl z)
    refine T2_suc (fun k => by rw [x_valueOf]) (fun k => by rw [x_valueOf]) ?_
    rw [d1, d2, show (1 : Int32).toNatClampNeg = 1 from by decide, c1, b1]
    refine T2_chk (by decide) (by decide) ?_
    refine T2_chk hin hin ?_
    rw [n_cl (p := n) (by omega), hS1.1 6 _ (by omega) (by omega) (by omega), hS2.1 6 _ (by omega) (by omega) (by omega), x6, show nI c - 1 = nI (c - 1) from n_sub (p := c) (q := 1) (by omega) hc1, show (60 : Int32) * nI (c - 1) = nI (60 * (c - 1)) from n_mulN 60 (c - 1), show (214 : Int32) + nI (60 * (c - 1)) = nI (214 + 60 * (c - 1)) from n_add (p := 214) (by omega), n_add (p := 214 + 60 * (c - 1)) (by omega)]
    refine T2_chk (n_in (by omega) (by omega)) (n_in (by omega) (by omega)) ?_
    rw [n_cl (p := 214 + 60 * (c - 1) + s) (by omega)]
    exact bl 0 _ (σ1.2.2 30 (214 + 60 * (c - 1) + s), σ1) (σ2.2.2 30 (214 + 60 * (c - 1) + s), σ2) _ _ 0 rfl rfl ⟨rfl, rfl⟩
  · refine ⟨33, fb fu + s, Or.inr (Or.inr (Or.inr (Or.inl ⟨rfl, by omega⟩))), Or.inr rfl, fun z => by omega, fun _ => by omega, ?_⟩
    refine T2_suc (fun k => by rw [x_valueOf]) (fun k => by rw [x_valueOf]) ?_
    rw [d1, d2]
    refine T2_chk hin hin ?_
    rw [n_cl (p := n) (by omega), hS1.1 5 _ (by omega) (by omega) (by omega), hS2.1 5 _ (by omega) (by omega) (by omega)]
    refine T2_ite Iff.rfl (fun z _ => absurd z z5) (fun _ _ => ?_)
    refine T2_suc (fun k => by rw [x_valueOf]) (fun k => by rw [x_valueOf]) ?_
    rw [a69, z69, d1, d2, a68, z68]
    refine T2_ite Iff.rfl (fun z _ => absurd z (by decide)) (fun _ _ => ?_)
    refine T2_chk hin hin ?_
    rw [n_cl (p := n) (by omega), hS1.1 6 _ (by omega) (by omega) (by omega), hS2.1 6 _ (by omega) (by omega) (by omega), x6, n_add (p := fb fu) (by omega)]
    refine T2_chk (n_in (by omega) (by omega)) (n_in (by omega) (by omega)) ?_
    rw [n_cl (p := fb fu + s) (by omega)]
    exact bl 0 _ (σ1.2.2 33 (fb fu + s), σ1) (σ2.2.2 33 (fb fu + s), σ2) _ _ 0 rfl rfl ⟨rfl, rfl⟩
theorem b_var {n s : Nat} (hP : PC T FN O r K lc d t w XC σ1) (hI : EI t w XC σ1 σ2) (hn : (1 ≤ n ∧ n < LNo T % 70001)) (x6 : T 6 n = nI s) (hs : s < 60) (x5 : T 5 n = 0 ∨ lc 0) {b e : Nat} {L1 L2 : Nat → Int32} (d1 : L1 1 = nI n) (d2 : L2 1 = nI n) : T2 (fun k => x_GV k e 0 8 L1 σ1) (fun k => x_GV k e 0 8 L2 σ2) (EQ b t w XC σ1 σ2) := by
  have ht := PC_t hP
  have hI0 := hI
  obtain ⟨g1, l1, B1, h1, X1, g2, l2, B2, h2, X2, hX⟩ := hI
  obtain ⟨hS1, _, _, _, _, _, _, fu, dp, e', hC, _⟩ := hP
  obtain ⟨a, i, hR, ha, _, _, hT⟩ := E_val hS1 hX hC hn x6 hs x5 (L1 := upd (fun _ => 0) 1 (L1 1)) (L2 := upd (fun _ => 0) 1 (L2 1)) d1 d2
  refine T2_suc (fun k => e_begins_8 k _ _ _) (fun k => e_begins_8 k _ _ _) ?_
  refine T2_ob hT (fun r1 r2 hr => ?_)
  rw [hr.1, hr.2]
  refine T2_ob (E_prt hI0 (by omega) hR (by unfold VwR; omega) rfl rfl) (fun s1 s2 hs => ?_)
  exact T2_some ⟨hs.1, hs.2.1, Or.inl ⟨w, Nat.le_refl _, hs.2.2⟩⟩
/-- a condition -/
theorem b_holds {f O' r' : Nat} {x : Int32} (hE : PE T FN d) (hW : WN T FN f 0 O' r' K lc x) (hP : PC T FN O' r' K lc d t w XC σ1) (hI : EI t w XC σ1 σ2) {L1 L2 : Nat → Int32} (d1 : L1 1 = x) (d2 : L2 1 = x) : T2 (fun k => x_GV k (d + 1) 8 0 L1 σ1) (fun k => x_GV k (d + 1) 8 0 L2 σ2) (fun r1 r2 => r1.1 = r2.1 ∧ FE σ1 r1.2 ∧ FE σ2 r2.2 ∧ ((∃ w', w ≤ w' ∧ EI t w' XC r1.2 r2.2) ∨ (EZ t (178000 + d) r1.2 ∧ EZ t (178000 + d) r2.2 ∧ r1.1 = 0))) := by
  have ht := PC_t hP
  have fin : ∀ (c : Int32) (N1 N2 : Nat → Int32) (τ1 τ2 : MS), (c = 0 ∨ c = 1) → N1 100 = c → N2 100 = c → FE σ1 τ1 → FE σ2 τ2 → ((∃ w', w ≤ w' ∧ EI t w' XC τ1 τ2) ∨ (EZ t (178000 + d) τ1 ∧ EZ t (178000 + d) τ2 ∧ c = 0)) → T2 (fun k => x_GV k (d + 1) 8 2 N1 τ1) (fun k => x_GV k (d + 1) 8 2 N2 τ2) (fun r1 r2 => r1.1 = r2.1 ∧ FE σ1 r1.2 ∧ FE σ2 r2.2 ∧ ((∃ w', w ≤ w' ∧ EI t w' XC r1.2 r2.2) ∨ (EZ t (178000 + d) r1.2 ∧ EZ t (178000 + d) r2.2 ∧ r1.1 = 0))) := by
    intro c N1 N2 τ1 τ2 hc n1 n2 f1 f2 h
    refine T2_suc (fun k => e_holds_2 k _ _ _) (fun k => e_holds_2 k _ _ _) ?_
    rw [n1, n2]
    exact T2_chk hc hc (T2_some ⟨rfl, f1, f2, h⟩)
  have fin0 : ∀ (N1 N2 : Nat → Int32) (τ1 τ2 : MS), FE σ1 τ1 → FE σ2 τ2 → ((∃ w', w ≤ w' ∧ EI t w' XC τ1 τ2) ∨ (EZ t (178000 + d) τ1 ∧ EZ t (178000 + d) τ2)) → T2 (fun k => x_GV k (d + 1) 8 1 N1 τ1) (fun k => x_GV k (d + 1) 8 1 N2 τ2) (fun r1 r2 => r1.1 = r2.1 ∧ FE σ1 r1.2 ∧ FE σ2 r2.2 ∧ ((∃ w', w ≤ w' ∧ EI t w' XC r1.2 r2.2) ∨ (EZ t (178000 + d) r1.2 ∧ EZ t (178000 + d) r2.2 ∧ r1.1 = 0))) := by
    intro N1 N2 τ1 τ2 f1 f2 h
    refine T2_suc (fun k => e_holds_1 k _ _ _) (fun k => e_holds_1 k _ _ _) ?_
    exact fin 0 _ _ τ1 τ2 (Or.inl rfl) rfl rfl f1 f2 (h.imp id (fun z => ⟨z.1, z.2, rfl⟩))
  refine T2_suc (fun k => e_holds_0 k _ _ _) (fun k => e_holds_0 k _ _ _) ?_
  refine T2_od ?_
  refine T2_ob (hE f O' r' K lc x t w XC σ1 σ2 _ _ hW hP hI (by exact d1) (by exact d2)) (fun r1 r2 hr => ?_)
  obtain ⟨f1, f2, hr⟩ := hr
  rcases hr with ⟨w2, hw2, hJ⟩ | ⟨z1, z2⟩
  · obtain ⟨e1, e2⟩ := EI_e hJ
    rw [e1, e2]
    refine T2_ite Iff.rfl (fun _ _ => ?_) (fun z _ => absurd rfl z)
    refine T2_ob (E_isTrue hP.2.1 (by omega) hJ _ _) (fun s1 s2 hs => ?_)
    obtain ⟨a1, a2, a3, a4, a5⟩ := hs
    have a5 : (∃ w', w ≤ w' ∧ EI t w' XC s1.2 s2.2) ∨ (EZ t (178000 + d) s1.2 ∧ EZ t (178000 + d) s2.2 ∧ s1.1 = 0) := by
      rcases a5 with a | ⟨a, b, s0⟩
      · exact Or.inl ⟨w2, hw2, a⟩
      · exact Or.inr ⟨EZ_mo a (Nat.le_refl _) (by omega), EZ_mo b (Nat.le_refl _) (by omega), s0⟩
    rw [a1] at a5 ⊢
    exact T2_ite Iff.rfl (fun _ _ => fin0 _ _ s1.2 s2.2 (FE_tr f1 a3) (FE_tr f2 a4) (a5.imp id (fun z => ⟨z.1, z.2.1⟩))) (fun y _ => fin 1 _ _ s1.2 s2.2 (Or.inr rfl) rfl rfl (FE_tr f1 a3) (FE_tr f2 a4) (a5.imp id (fun z => absurd z.2.2 y)))
  · refine T2_ite ⟨fun z => absurd z (EZ_e z1), fun z => absurd z (EZ_e z2)⟩ (fun z _ => absurd z (EZ_e z1)) (fun _ _ => ?_)
    exact fin0 _ _ r1.2 r2.2 f1 f2 (Or.inr ⟨z1, z2⟩)
end EBG
end JnS204
section JnS205
/-! Evaluation on both sides (reference): new atoms, single operations, ranges, choices. -/
section EBH
variable {T : Nat → Nat → Int32} {FN : Nat → Nat → Prop} {O r K d t w XC : Nat} {lc : Nat → Prop} {σ1 σ2 : MS}
theorem b_new (hP : PC T FN O r K lc d t w XC σ1) (hI : EI t w XC σ1 σ2) {b e : Nat} (hb : 178000 ≤ b) {L1 L2 : Nat → Int32} : T2 (fun k => x_GV k e 0 7 L1 σ1) (fun k => x_GV k e 0 7 L2 σ2) (EQ b t w XC σ1 σ2) := by
  have ht := PC_t hP
  have hXC := hP.2.1
  refine T2_suc (fun k => e_begins_7 k _ _ _) (fun k => e_begins_7 k _ _ _) ?_
  refine T2_ob (E_sw hXC (by omega) hI) (fun r1 r2 hr => ?_)
  obtain ⟨k1, k2, g1, l1, B1, h1, X1, g2, l2, B2, h2, X2, hX, rm1, rm2⟩ := hr
  obtain ⟨a1, a2, aR, i1, i2, t1, q1, q2, w1, hw, x1, x2, ⟨ty1, ty2⟩, a, z1, z2⟩ := hX
  have al : ∀ j, AlS j → r2.2.1 j = r1.2.1 j := fun j h => (aR.2.2.1 j h).symm
  have t2 : r2.2.1 59 = nI t := (al 59 (by unfold AlS; omega)).trans t1
  have w2 : r2.2.1 57 = nI w := (al 57 (by unfold AlS; omega)).trans w1
  have z3 : r2.2.1 95 = nI a := (al 95 (by unfold AlS; omega)).trans z1
  have P1 : VP g1 l1 B1 h1 t r1.2 := ⟨a1.1, t1, by omega, ⟨0, q1, by decide⟩⟩
  have P2 : VP g2 l2 B2 h2 t r2.2 := ⟨a2.1, t2, by omega, ⟨0, q2, by decide⟩⟩
  refine T2_ob (T2_of (s_newAtom P1 z2 z1 _) (s_newAtom P2 z2 z3 _) (fun n => Pm_wl (fun k => wl_newAtom k _ _ _) (fun k => wl_newAtom k _ _ _) (k_newAtom a1.1 a2.1 q1 q2 (by omega) (by omega) z2 z1 z3 _ _))) (fun s1 s2 hs => ?_)
  obtain ⟨⟨⟨hq, h95⟩, wl1, wl2⟩, o1, o2⟩ := hs
  have h96 : s1.2.2.1 96 = s2.2.2.1 96 := by rw [wl1, wl2]; exact aR.2.2.2
  rcases o1 with ⟨c1, o1⟩ | ⟨c1, o1⟩
  · rcases o2 with ⟨_, o2⟩ | ⟨c2, _⟩
    case inr => omega
    have v1 : VO g1 B1 h1 t r1.2 s1 := by rw [o1]; exact VO_er P1 (e := 6) (by decide)
    have v2 : VO g2 B2 h2 t r2.2 s2 := by rw [o2]; exact VO_er P2 (e := 6) (by decide)
    have y95 : s1.2.1 95 = nI a := by rw [o1]; exact (mEr_s (by decide)).trans z1
    have p57 : s1.2.1 57 = s2.2.1 57 := by
      rw [o1, o2]
      show (mEr r1.2 (nI 6)).1 57 = (mEr r2.2 (nI 6)).1 57
      rw [mEr_s (by decide), mEr_s (by decide), w1, w2]
    exact E_ans a1 a2 aR i1 i2 (by omega) ty1 ty2 ⟨a, y95, z2⟩ h95 (SO_of (W := 0) (by omega) a1 w1 hw.1 x1 (VQ_of v1)) (SO_of (W := 0) (by omega) a2 w2 hw.1 x2 (VQ_of v2)) ⟨KR_of (c := 8600) (VO_54 v1) (VO_54 v2) (by omega) hq p57, h96⟩ (fun v1 v2 f1 f2 h => T2_some (EQ_ans k1 k2 (Nat.le_refl _) (by omega) f1 f2 h))
  · rcases o2 with ⟨c2, _⟩ | ⟨_, o2⟩
    case inl => omega
    have m1 : MI t X1 g1 l1 B1 h1 (mSc r1.2 95 (nI (a + 1))) := MI_c a1 rfl rfl rfl rfl rfl
    have m2 : MI t X2 g2 l2 B2 h2 (mSc r2.2 95 (nI (a + 1))) := MI_c a2 rfl rfl rfl rfl rfl
    have mR : RA t g1 g2 (mSc r1.2 95 (nI (a + 1))) (mSc r2.2 95 (nI (a + 1))) := by
      refine RA_c aR rfl rfl rfl rfl rfl rfl rfl rfl (fun j hj => ?_) aR.2.2.2
      show upd r1.2.1 95 (nI (a + 1)) j = upd r2.2.1 95 (nI (a + 1)) j
      by_cases e : j = 95
      · rw [e, upd_same, upd_same]
      · rw [upd_other e, upd_other e]; exact aR.2.2.1 j hj
    have f95 : ∀ σ : MS, FE σ (mSc σ 95 (nI (a + 1))) := fun σ => FE_sc (Or.inr (Or.inr (Or.inr rfl)))
    have o1' := o1
    have o2' := o2
    obtain ⟨_, _, _, _, fw1, _⟩ := o1'
    obtain ⟨_, _, _, _, fw2, _⟩ := o2'
    have p57 : s1.2.1 57 = s2.2.1 57 := by
      rw [fw1.1 57 (by decide), fw2.1 57 (by decide)]
      exact w1.trans w2.symm
    exact E_ans m1 m2 mR (IT_c rfl rfl rfl rfl i1) (IT_c rfl rfl rfl rfl i2) (by omega) ty1 ty2 ⟨a + 1, fw1.1 95 (by decide), by omega⟩ h95 (SO_of (W := 0) (by omega) m1 w1 hw.1 x1 (VQ_of o1)) (SO_of (W := 0) (by omega) m2 w2 hw.1 x2 (VQ_of o2)) ⟨KR_of (c := 8600) (VO_54 o1) (VO_54 o2) (by omega) hq p57, h96⟩ (fun v1 v2 f1 f2 h => T2_some (EQ_ans (FE_tr k1 (f95 _)) (FE_tr k2 (f95 _)) (Nat.le_refl _) (by omega) f1 f2 h))
/-- an operation on one value -/
theorem b_one {f n O' r' e : Nat} (hE : PE T FN e) (hn : (1 ≤ n ∧ n < LNo T % 70001)) (lo : (O' = O ∧ r' + 2 ≤ r) ∨ (O' < O ∧ r' ≤ 14)) (hW : WN T FN f 0 O' r' K lc (T 6 n)) (hP : PC T FN O r K lc (e + 2) t w XC σ1) (hI : EI t w XC σ1 σ2) {L1 L2 : Nat → Int32} (d1 : L1 1 = nI n) (d2 : L2 1 = nI n) : T2 (fun k => x_GV k (e + 1) 0 16 L1 σ1) (fun k => x_GV k (e + 1) 0 16 L2 σ2) (EQ (178000 + (e + 1)) t w XC σ1 σ2) := by
  have ht := PC_t hP
  have hXC := hP.2.1
  have hd13 := hP.2.2.2.2.1
  have hS1 := hP.1
  have hS2 := EI_ST hI hS1
  have b17 : ∀ (N1 N2 : Nat → Int32) (v1 v2 : MS), EQ (178000 + (e + 1)) t w XC σ1 σ2 (0, v1) (0, v2) → T2 (fun k => x_GV k (e + 1) 0 17 N1 v1) (fun k => x_GV k (e + 1) 0 17 N2 v2) (EQ (178000 + (e + 1)) t w XC σ1 σ2) := fun N1 N2 v1 v2 h => by
    refine T2_suc (fun k => e_begins_17 k _ _ _) (fun k => e_begins_17 k _ _ _) ?_
    exact T2_some h
  refine T2_suc (fun k => e_begins_16 k _ _ _) (fun k => e_begins_16 k _ _ _) ?_
  rw [d1, d2]
  refine T2_chk (n_in (by omega) (by omega)) (n_in (by omega) (by omega)) ?_
  rw [n_cl (p := n) (by omega), hS1.1 6 _ (by omega) (by omega) (by omega), hS2.1 6 _ (by omega) (by omega) (by omega)]
  refine T2_od ?_
  refine T2_ob (hE f O' r' K lc (T 6 n) t w XC σ1 σ2 _ _ hW (PC_lo hP lo (WN_r hW) (by omega) (by omega) (by omega)) hI rfl rfl) (fun r1 r2 hr => ?_)
  obtain ⟨f1, f2, hr⟩ := hr
  rcases hr with ⟨w2, hw2, hJ⟩ | ⟨z1, z2⟩
  case inr =>
    refine T2_ite ⟨fun z => absurd z (EZ_e z1), fun z => absurd z (EZ_e z2)⟩ (fun z _ => absurd z (EZ_e z1)) (fun _ _ => ?_)
    exact b17 _ _ _ _ ⟨f1, f2, Or.inr ⟨EZ_mo z1 (Nat.le_refl _) (by omega), EZ_mo z2 (Nat.le_refl _) (by omega)⟩⟩
  obtain ⟨e1, e2⟩ := EI_e hJ
  rw [e1, e2]
  refine T2_ite Iff.rfl (fun _ _ => ?_) (fun z _ => absurd rfl z)
  refine T2_ob (E_sw hXC (by omega) hJ) (fun s1 s2 hs => ?_)
  obtain ⟨k1, k2, g1, l1, B1, h1, X1, g2, l2, B2, h2, X2, hX, rm1, rm2⟩ := hs
  obtain ⟨a1, a2, aR, i1, i2, t1, q1, q2, w1, hw, x1, x2, ⟨ty1, ty2⟩, a, y1, y2⟩ := hX
  have t2 : s2.2.1 59 = nI (t + 1) := (aR.2.2.1 59 (by unfold AlS; omega)).symm.trans t1
  refine T2_ob (T2_t (s_pop t1 (by omega) _) (s_pop t2 (by omega) _)) (fun u1 u2 hu => ?_)
  rw [hu.1, hu.2]
  obtain ⟨va, vb, va1, va2, va3, va4, va5, va6, va7⟩ := aR.1 29 t (Or.inl ⟨rfl, by omega⟩) (by unfold VwR; omega)
  rw [va1, va3]
  have g59 : ∀ σ : MS, FE σ (mSc σ 59 (nI t)) := fun σ => FE_sc (Or.inr (Or.inr (Or.inl rfl)))
  have m1 : MI (t + 1) X1 g1 l1 B1 h1 (mSc s1.2 59 (nI t)) := MI_59 a1
  have m2 : MI (t + 1) X2 g2 l2 B2 h2 (mSc s2.2 59 (nI t)) := MI_59 a2
  have mR : RA (t + 1) g1 g2 (mSc s1.2 59 (nI t)) (mSc s2.2 59 (nI t)) := RA_59 aR
  have w2' : s2.2.1 57 = nI w2 := (aR.2.2.1 57 (by unfold AlS; omega)).symm.trans w1
  refine T2_ob (T2_of (s_single (XB := XC) (L := upd (upd (fun _ => 0) 1 (nI n)) 2 (nI va)) m1 ty1 va1 va2 rfl (by omega) q1 w1 hw.1 x1 rfl (by omega) rfl) (s_single (XB := XC) (L := upd (upd (fun _ => 0) 1 (nI n)) 2 (nI vb)) m2 (by show TyT (s2.2.2.2 2); rw [← ty2]; exact ty1) va3 va4 rfl (by omega) q2 w2' hw.1 x2 rfl (by omega) rfl) (fun n' => k_single (STb_nt (STb_fe (STb_fe (STb_fe hS1 f1) k1) (g59 _)) hn) m1 m2 mR ty1 ty2 va1 va3 va2 va4 va5 rfl (by omega) hXC q1 q2 w1 hw.1 x1 x2 (by omega) (by omega) (by omega) rfl rfl rfl rfl)) (fun v1 v2 hv => ?_)
  obtain ⟨ks, o1, o2⟩ := hv
  have p95 : v1.2.1 95 = s1.2.1 95 := by
    obtain ⟨_, _, _, _, _, _, _, _, eo, _⟩ := o1
    exact eo.2.2 95 (by decide)
  have p95' : v2.2.1 95 = s2.2.1 95 := by
    obtain ⟨_, _, _, _, _, _, _, _, eo, _⟩ := o2
    exact eo.2.2 95 (by decide)
  exact E_ans (MI_mo m1 (by omega)) (MI_mo m2 (by omega)) (RA_mo (by omega) mR) (IT_c rfl rfl rfl rfl i1) (IT_c rfl rfl rfl rfl i2) (by omega) ty1 ty2 ⟨a, p95.trans y1, y2⟩ (p95.trans ((aR.2.2.1 95 (by unfold AlS; omega)).trans p95'.symm)) o1 o2 ks (fun v1 v2 h1 h2 h => b17 _ _ _ _ (EQ_ans (FE_tr f1 (FE_tr k1 (g59 _))) (FE_tr f2 (FE_tr k2 (g59 _))) hw2 (by omega) h1 h2 h))
/-- a choice -/
theorem b_choose {n e : Nat} (hE : ∀ i, i < e + 1 → PE T FN i) (hn : (1 ≤ n ∧ n < LNo T % 70001)) (hO : 1 ≤ O) {f0 : Nat} (hW : WN T FN f0 5 (O - 1) 0 K lc (T 6 n)) (hP : PC T FN O r K lc (e + 3) t w XC σ1) (hI : EI t w XC σ1 σ2) {L1 L2 : Nat → Int32} (d1 : L1 1 = nI n) (d2 : L2 1 = nI n) : T2 (fun k => x_GV k (e + 1) 3 0 L1 σ1) (fun k => x_GV k (e + 1) 3 0 L2 σ2) (EQ (178000 + e) t w XC σ1 σ2) := by
  have ht := PC_t hP
  have hXC := hP.2.1
  have hd13 := hP.2.2.2.2.1
  have hS1 := hP.1
  have hS2 := EI_ST hI hS1
  obtain ⟨e', rfl⟩ : ∃ e', e = e' + 1 := by
    obtain ⟨_, _, _, _, _, a6, _, _, _, _, _, _, _, c4⟩ := hP
    exact ⟨e - 1, by omega⟩
  have tb : ∀ (τ1 τ2 : MS), FE σ1 τ1 → FE σ2 τ2 → ∀ a i, 4 ≤ a → a ≤ 9 → (1 ≤ i ∧ i < LNo T % 70001) → τ1.2.2 a i = T a i ∧ τ2.2.2 a i = T a i := fun τ1 τ2 f1 f2 a i h1 h2 h3 => ⟨(STb_fe hS1 f1).1 a i h1 (by omega) ⟨fun _ => h3, fun z => by omega⟩, (STb_fe hS2 f2).1 a i h1 (by omega) ⟨fun _ => h3, fun z => by omega⟩⟩
  have b5 : ∀ (N1 N2 : Nat → Int32) (v1 v2 : MS), EQ (178000 + (e' + 1)) t w XC σ1 σ2 (0, v1) (0, v2) → T2 (fun k => x_GV k (e' + 1 + 1) 3 5 N1 v1) (fun k => x_GV k (e' + 1 + 1) 3 5 N2 v2) (EQ (178000 + (e' + 1)) t w XC σ1 σ2) := fun N1 N2 v1 v2 h => by
    refine T2_suc (fun k => e_choose_5 k _ _ _) (fun k => e_choose_5 k _ _ _) ?_
    exact T2_some h
  have b4 : ∀ (c w' : Nat) (N1 N2 : Nat → Int32) (τ1 τ2 : MS), (1 ≤ c ∧ c < LNo T % 70001) → N1 2 = nI c → N2 2 = nI c → (∃ f, WN T FN f 0 (O - 1) 14 K lc (T 6 c)) → FE σ1 τ1 → FE σ2 τ2 → w ≤ w' → (EI t w' XC τ1 τ2 ∨ (EZ t (178000 + (e' + 1)) τ1 ∧ EZ t (178000 + (e' + 1)) τ2)) → T2 (fun k => x_GV k (e' + 1 + 1) 3 4 N1 τ1) (fun k => x_GV k (e' + 1 + 1) 3 4 N2 τ2) (EQ (178000 + (e' + 1)) t w XC σ1 σ2) := by
    intro c w' N1 N2 τ1 τ2 hc n2 o2 hWc f1 f2 hw h
    refine T2_suc (fun k => e_choose_4 k _ _ _) (fun k => e_choose_4 k _ _ _) ?_
    rcases h with hJ | ⟨z1, z2⟩
    · obtain ⟨e1, e2⟩ := EI_e hJ
      rw [e1, e2, n2, o2]
      refine T2_ite Iff.rfl (fun _ _ => ?_) (fun z _ => absurd rfl z)
      refine T2_chk (n_in (by omega) (by omega)) (n_in (by omega) (by omega)) ?_
      rw [n_cl (p := c) (by omega), (tb _ _ f1 f2 6 _ (by omega) (by omega) (by omega)).1, (tb _ _ f1 f2 6 _ (by omega) (by omega) (by omega)).2]
      obtain ⟨fc, hWc⟩ := hWc
      refine T2_od ?_
      refine T2_ob (hE (e' + 1) (by omega) fc (O - 1) 14 K lc (T 6 c) t w' XC τ1 τ2 _ _ hWc (PC_in (PC_fe hP f1 hw (EI_w hJ)) hO (Nat.le_refl _) (by omega) (by omega) (by omega)) hJ rfl rfl) (fun r1 r2 hr => ?_)
      obtain ⟨g1, g2, hr⟩ := hr
      refine b5 _ _ _ _ ⟨FE_tr f1 g1, FE_tr f2 g2, ?_⟩
      rcases hr with ⟨w2, hw2, hr⟩ | hr
      · exact Or.inl ⟨w2, by omega, hr⟩
      · exact Or.inr hr
    · refine T2_ite ⟨fun z => absurd z (EZ_e z1), fun z => absurd z (EZ_e z2)⟩ (fun z _ => absurd z (EZ_e z1)) (fun _ _ => ?_)
      exact b5 _ _ _ _ ⟨f1, f2, Or.inr ⟨z1, z2⟩⟩
  have b1 : ∀ (f c w' : Nat) (N1 N2 : Nat → Int32) (τ1 τ2 : MS), WN T FN f 5 (O - 1) 0 K lc (nI c) → (1 ≤ c ∧ c < LNo T % 70001) → N1 2 = nI c → N2 2 = nI c → N1 3 = 1 → N2 3 = 1 → FE σ1 τ1 → FE σ2 τ2 → w ≤ w' → EI t w' XC τ1 τ2 → T2 (fun k => x_GV k (e' + 1 + 1) 3 1 N1 τ1) (fun k => x_GV k (e' + 1 + 1) 3 1 N2 τ2) (EQ (178000 + (e' + 1)) t w XC σ1 σ2) := by
    intro f
    induction f with
    | zero => intro c w' N1 N2 τ1 τ2 hW; exact hW.elim
    | succ f ih =>
      intro c w' N1 N2 τ1 τ2 hW hc n2 o2 n3 o3 f1 f2 hw hJ
      unfold WN at hW
      rcases hW with ⟨z, _⟩ | ⟨z, _⟩ | ⟨z, _⟩ | ⟨z, _⟩ | ⟨z, _⟩ | ⟨_, c', ec, _, W6, hor⟩ | ⟨z, _⟩
      case inl => exact absurd z (by decide)
      case inr.inl => exact absurd z (by decide)
      case inr.inr.inl => exact absurd z (by decide)
      case inr.inr.inr.inl => exact absurd z (by decide)
      case inr.inr.inr.inr.inl => exact absurd z (by decide)
      case inr.inr.inr.inr.inr.inr => exact absurd z (by decide)
      have hc70 : (1 ≤ c' ∧ c' < LNo T % 70001) := by assumption
      have ecc : c = c' := (n_eq (by omega) (by omega)).mp ec
      subst ecc
      have b2 : ∀ (w2 : Nat) (υ1 υ2 : MS), FE σ1 υ1 → FE σ2 υ2 → w ≤ w2 → (EI t w2 XC υ1 υ2 ∨ (EZ t (178000 + (e' + 1)) υ1 ∧ EZ t (178000 + (e' + 1)) υ2)) → T2 (fun k => x_GV k (e' + 1 + 1) 3 2 N1 υ1) (fun k => x_GV k (e' + 1 + 1) 3 2 N2 υ2) (EQ (178000 + (e' + 1)) t w XC σ1 σ2) := fun w2 υ1 υ2 k1 k2 hw2 h => by
        refine T2_suc (fun k => e_choose_2 k _ _ _) (fun k => e_choose_2 k _ _ _) ?_
        refine T2_suc (fun k => e_choose_1 k _ _ _) (fun k => e_choose_1 k _ _ _) ?_
        refine T2_ite (c1 := (0 : Int32) = 0) (c2 := (0 : Int32) = 0) Iff.rfl (fun _ _ => ?_) (fun z _ => absurd rfl z)
        exact b4 c w2 _ _ υ1 υ2 hc n2 o2 ⟨f, W6⟩ k1 k2 hw2 h
      refine T2_suc (fun k => e_choose_1 k _ _ _) (fun k => e_choose_1 k _ _ _) ?_
      obtain ⟨e1, e2⟩ := EI_e hJ
      rw [n3, o3, e1, e2, n2, o2]
      refine T2_ite Iff.rfl (fun z _ => absurd z (by decide)) (fun _ _ => ?_)
      refine T2_ite Iff.rfl (fun _ _ => ?_) (fun z _ => absurd rfl z)
      refine T2_chk (n_in (by omega) (by omega)) (n_in (by omega) (by omega)) ?_
      rw [n_cl (p := c) (by omega), (tb _ _ f1 f2 5 _ (by omega) (by omega) (by omega)).1, (tb _ _ f1 f2 5 _ (by omega) (by omega) (by omega)).2]
      refine T2_ite Iff.rfl (fun _ _ => b2 w' τ1 τ2 f1 f2 hw (Or.inl hJ)) (fun z5 _ => ?_)
      obtain ⟨W5, W9⟩ := hor.resolve_left z5
      refine T2_chk (n_in3 (by omega) (by omega)) (n_in3 (by omega) (by omega)) ?_
      refine T2_od ?_
      refine T2_ob (b_holds (hE e' (by omega)) W5 (PC_in (PC_fe hP f1 hw (EI_w hJ)) hO (Nat.le_refl _) (by omega) (by omega) (by omega)) hJ rfl rfl) (fun r1 r2 hr => ?_)
      obtain ⟨a1, a2, a3, a4⟩ := hr
      have a4 : (∃ w2, w' ≤ w2 ∧ EI t w2 XC r1.2 r2.2) ∨ (EZ t (178000 + e') r1.2 ∧ EZ t (178000 + e') r2.2) := a4.imp id (fun z => ⟨z.1, z.2.1⟩)
      have k1 := FE_tr f1 a2
      have k2 := FE_tr f2 a3
      have zmo : ∀ {τ : MS}, EZ t (178000 + e') τ → EZ t (178000 + (e' + 1)) τ := fun z => EZ_mo z (Nat.le_refl _) (by omega)
      rw [a1]
      refine T2_ite Iff.rfl (fun _ _ => ?_) (fun _ _ => ?_)
      · refine T2_suc (fun k => e_choose_3 k _ _ _) (fun k => e_choose_3 k _ _ _) ?_
        rw [n2, o2]
        refine T2_chk (n_in (by omega) (by omega)) (n_in (by omega) (by omega)) ?_
        rw [n_cl (p := c) (by omega), (tb _ _ k1 k2 9 _ (by omega) (by omega) (by omega)).1, (tb _ _ k1 k2 9 _ (by omega) (by omega) (by omega)).2]
        rcases a4 with ⟨w2, hw2, hJ2⟩ | ⟨z1, z2⟩
        · have W9' := W9
          cases f with
          | zero => exact W9'.elim
          | succ f' =>
            unfold WN at W9'
            rcases W9' with ⟨z, _⟩ | ⟨z, _⟩ | ⟨z, _⟩ | ⟨z, _⟩ | ⟨z, _⟩ | ⟨_, c2, ec2, hc2, _⟩ | ⟨z, _⟩
            case inl => exact absurd z (by decide)
            case inr.inl => exact absurd z (by decide)
            case inr.inr.inl => exact absurd z (by decide)
            case inr.inr.inr.inl => exact absurd z (by decide)
            case inr.inr.inr.inr.inl => exact absurd z (by decide)
            case inr.inr.inr.inr.inr.inr => exact absurd z (by decide)
            rw [ec2] at W9 ⊢
            exact ih c2 w2 _ _ r1.2 r2.2 W9 hc2 rfl rfl n3 o3 k1 k2 (by omega) hJ2
        · refine T2_suc (fun k => e_choose_1 k _ _ _) (fun k => e_choose_1 k _ _ _) ?_
          have u1 : upd N1 2 (T 9 c) 3 = 1 := n3
          have u2 : upd N2 2 (T 9 c) 3 = 1 := o3
          rw [u1, u2]
          refine T2_ite Iff.rfl (fun z _ => absurd z (by decide)) (fun _ _ => ?_)
          refine T2_ite ⟨fun z => absurd z (EZ_e z1), fun z => absurd z (EZ_e z2)⟩ (fun z _ => absurd z (EZ_e z1)) (fun _ _ => ?_)
          refine T2_suc (fun k => e_choose_4 k _ _ _) (fun k => e_choose_4 k _ _ _) ?_
          refine T2_ite ⟨fun z => absurd z (EZ_e z1), fun z => absurd z (EZ_e z2)⟩ (fun z _ => absurd z (EZ_e z1)) (fun _ _ => ?_)
          exact b5 _ _ _ _ ⟨k1, k2, Or.inr ⟨zmo z1, zmo z2⟩⟩
      · rcases a4 with ⟨w2, hw2, hJ2⟩ | ⟨z1, z2⟩
        · exact b2 w2 r1.2 r2.2 k1 k2 (by omega) (Or.inl hJ2)
        · exact b2 w r1.2 r2.2 k1 k2 (Nat.le_refl _) (Or.inr ⟨zmo z1, zmo z2⟩)
  refine T2_suc (fun k => e_choose_0 k _ _ _) (fun k => e_choose_0 k _ _ _) ?_
  rw [d1, d2]
  refine T2_chk (n_in (by omega) (by omega)) (n_in (by omega) (by omega)) ?_
  rw [n_cl (p := n) (by omega), hS1.1 6 _ (by omega) (by omega) (by omega), hS2.1 6 _ (by omega) (by omega) (by omega)]
  have hW' := hW
  cases f0 with
  | zero => exact hW'.elim
  | succ f' =>
    unfold WN at hW'
    rcases hW' with ⟨z, _⟩ | ⟨z, _⟩ | ⟨z, _⟩ | ⟨z, _⟩ | ⟨z, _⟩ | ⟨_, c2, ec2, hc2, _⟩ | ⟨z, _⟩
    case inl => exact absurd z (by decide)
    case inr.inl => exact absurd z (by decide)
    case inr.inr.inl => exact absurd z (by decide)
    case inr.inr.inr.inl => exact absurd z (by decide)
    case inr.inr.inr.inr.inl => exact absurd z (by decide)
    case inr.inr.inr.inr.inr.inr => exact absurd z (by decide)
    rw [ec2] at hW ⊢
    exact b1 (f' + 1) c2 w _ _ σ1 σ2 hW hc2 rfl rfl rfl rfl FE_rf FE_rf (Nat.le_refl _) hI
end EBH
end JnS205
section JnS206
/-! Evaluation on both sides (reference): ranges. -/
section EBR
variable {T : Nat → Nat → Int32} {FN : Nat → Nat → Prop} {O r K d t w XC : Nat} {lc : Nat → Prop} {σ1 σ2 : MS}
theorem b_bounds (hSG : SGN) {n e f : Nat} (hE : PE T FN e) (hn : (1 ≤ n ∧ n < LNo T % 70001)) (hO : 1 ≤ O) (W6 : WN T FN f 0 (O - 1) 14 K lc (T 6 n)) (W7 : T 7 n = -1 ∨ WN T FN f 0 (O - 1) 14 K lc (T 7 n)) (W8 : WN T FN f 0 (O - 1) 14 K lc (T 8 n)) (hP : PC T FN O r K lc (e + 3) t w XC σ1) (hI : EI t w XC σ1 σ2) {L1 L2 : Nat → Int32} (d1 : L1 1 = nI n) (d2 : L2 1 = nI n) : T2 (fun k => x_GV k (e + 1) 1 0 L1 σ1) (fun k => x_GV k (e + 1) 1 0 L2 σ2) (EQ (178000 + (e + 1)) t w XC σ1 σ2) := by
  have ht := PC_t hP
  have hXC := hP.2.1
  have hd13 := hP.2.2.2.2.1
  have hS1 := hP.1
  have hS2 := EI_ST hI hS1
  have tb : ∀ (τ1 τ2 : MS), FE σ1 τ1 → FE σ2 τ2 → ∀ a i, 4 ≤ a → a ≤ 9 → (1 ≤ i ∧ i < LNo T % 70001) → τ1.2.2 a i = T a i ∧ τ2.2.2 a i = T a i := fun τ1 τ2 f1 f2 a i h1 h2 h3 => ⟨(STb_fe hS1 f1).1 a i h1 (by omega) ⟨fun _ => h3, fun z => by omega⟩, (STb_fe hS2 f2).1 a i h1 (by omega) ⟨fun _ => h3, fun z => by omega⟩⟩
  have b7 : ∀ (N1 N2 : Nat → Int32) (v1 v2 : MS), EQ (178000 + (e + 1)) t w XC σ1 σ2 (0, v1) (0, v2) → T2 (fun k => x_GV k (e + 1) 1 7 N1 v1) (fun k => x_GV k (e + 1) 1 7 N2 v2) (EQ (178000 + (e + 1)) t w XC σ1 σ2) := fun N1 N2 v1 v2 h => by
    refine T2_suc (fun k => e_bounds_7 k _ _ _) (fun k => e_bounds_7 k _ _ _) ?_
    exact T2_some h
  have ev : ∀ (z : Int32) (t' w' : Nat) (τ1 τ2 : MS) (M1 M2 : Nat → Int32), WN T FN f 0 (O - 1) 14 K lc z → FE σ1 τ1 → w ≤ w' → t' ≤ t + 2 → EI t' w' XC τ1 τ2 → M1 1 = z → M2 1 = z → T2 (fun k => x_GV k e 4 0 M1 τ1) (fun k => x_GV k e 4 0 M2 τ2) (EQ (178000 + e) t' w' XC τ1 τ2) := fun z t' w' τ1 τ2 M1 M2 hW f1 hw ht' hJ q1 q2 => hE f (O - 1) 14 K lc z t' w' XC τ1 τ2 M1 M2 hW (PC_in (PC_fe hP f1 hw (EI_w hJ)) hO (Nat.le_refl _) (by omega) (by omega) (by omega)) hJ q1 q2
  -- the range itself
  have b6 : ∀ (c w' : Nat) (N1 N2 : Nat → Int32) (ρ1 ρ2 : MS) (g1 : Nat → Prop) (l1 : List Nat) (B1 h1 X1 : Nat) (g2 : Nat → Prop) (l2 : List Nat) (B2 h2 X2 : Nat), ((N2 100 = 0 ∧ c = 2) ∨ (¬ N2 100 = 0 ∧ c = 3)) → N1 100 = N2 100 → N1 101 = N2 101 → w ≤ w' → FE σ1 ρ1 → FE σ2 ρ2 → EIx (t + c) w' XC ρ1 ρ2 g1 l1 B1 h1 X1 g2 l2 B2 h2 X2 → h1 + 79900 ≤ B1 + 870000 → h2 + 79900 ≤ B2 + 870000 → T2 (fun k => x_GV k (e + 1) 1 6 N1 ρ1) (fun k => x_GV k (e + 1) 1 6 N2 ρ2) (EQ (178000 + (e + 1)) t w XC σ1 σ2) := by
    intro c w' N1 N2 ρ1 ρ2 g1 l1 B1 h1 X1 g2 l2 B2 h2 X2 hc n100 n101 hw' f1 f2 hX rm1 rm2
    obtain ⟨a1, a2, aR, i1, i2, t1, q1, q2, w1, hw, x1, x2, ⟨ty1, ty2⟩, a, y1, y2⟩ := hX
    have al : ∀ j, AlS j → ρ2.1 j = ρ1.1 j := fun j h => (aR.2.2.1 j h).symm
    have t2 : ρ2.1 59 = nI (t + c) := (al 59 (by unfold AlS; omega)).trans t1
    have w2 : ρ2.1 57 = nI w' := (al 57 (by unfold AlS; omega)).trans w1
    have pl : PlE g1 g2 ρ1 ρ2 t c := fun i hi => aR.1 29 (t + i) (Or.inl ⟨rfl, by omega⟩) (by unfold VwR; omega)
    have m1 : MI t X1 g1 l1 B1 h1 ρ1 := MI_mo a1 (by omega)
    have m2 : MI t X2 g2 l2 B2 h2 ρ2 := MI_mo a2 (by omega)
    refine T2_suc (fun k => e_bounds_6 k _ _ _) (fun k => e_bounds_6 k _ _ _) ?_
    rw [n100, n101]
    refine T2_ob (T2_of (s_range (L := upd (upd (fun _ => 0) 1 (N2 101)) 2 (N2 100)) a1.1 q1 (by omega) hc t1 (PlE_1 pl)) (s_range (L := upd (upd (fun _ => 0) 1 (N2 101)) 2 (N2 100)) a2.1 q2 (by omega) hc t2 (PlE_2 pl)) (fun n' => Pm_wl (fun k => wl_range k _ _ _) (fun k => wl_range k _ _ _) (k_range a1.1 a2.1 q1 q2 (by omega) (by omega) (by omega) (hSG _ _ _ _ _ a1.1) (hSG _ _ _ _ _ a2.1) rfl rfl hc t1 t2 pl))) (fun s1 s2 hs => ?_)
    obtain ⟨⟨hq, wl1, wl2⟩, o1, o2⟩ := hs
    have o1' := o1
    have o2' := o2
    obtain ⟨_, _, _, _, fw1, _⟩ := o1'
    obtain ⟨_, _, _, _, fw2, _⟩ := o2'
    have p57 : s1.2.1 57 = s2.2.1 57 := by rw [fw1.1 57 (by decide), fw2.1 57 (by decide), w1, w2]
    have p95 := fw1.1 95 (by decide)
    have p95' := fw2.1 95 (by decide)
    exact E_ans m1 m2 (RA_mo (by omega) aR) i1 i2 (by omega) ty1 ty2 ⟨a, p95.trans y1, y2⟩ (p95.trans ((aR.2.2.1 95 (by unfold AlS; omega)).trans p95'.symm)) (SO_of (W := 1001) (by omega) m1 w1 hw.1 x1 o1) (SO_of (W := 1001) (by omega) m2 w2 hw.1 x2 o2) ⟨KR_of (c := 8600) (VQ_54 o1) (VQ_54 o2) (by omega) hq p57, by rw [wl1, wl2]; exact aR.2.2.2⟩ (fun v1 v2 h1 h2 h => b7 _ _ _ _ (EQ_ans f1 f2 hw' (by omega) h1 h2 h))
  have b2 : ∀ (c w' : Nat) (N1 N2 : Nat → Int32) (τ1 τ2 : MS), (T 7 n = -1 → c = 2) → (¬ T 7 n = -1 → c = 3) → N1 1 = nI n → N2 1 = nI n → FE σ1 τ1 → FE σ2 τ2 → ((w ≤ w' ∧ EI (t + c) w' XC τ1 τ2) ∨ (EZ t (178000 + e) τ1 ∧ EZ t (178000 + e) τ2)) → T2 (fun k => x_GV k (e + 1) 1 2 N1 τ1) (fun k => x_GV k (e + 1) 1 2 N2 τ2) (EQ (178000 + (e + 1)) t w XC σ1 σ2) := by
    intro c w' N1 N2 τ1 τ2 hc2 hc3 n1 o1 f1 f2 h
    have hcb : c ≤ 3 := by
      by_cases z : T 7 n = -1
      · have := hc2 z; omega
      · have := hc3 z; omega
    refine T2_suc (fun k => e_bounds_2 k _ _ _) (fun k => e_bounds_2 k _ _ _) ?_
    rcases h with ⟨hw', hJ⟩ | ⟨z1, z2⟩
    case inr =>
      refine T2_ite ⟨fun z => absurd z (EZ_e z1), fun z => absurd z (EZ_e z2)⟩ (fun z _ => absurd z (EZ_e z1)) (fun _ _ => ?_)
      exact b7 _ _ _ _ ⟨f1, f2, Or.inr ⟨EZ_mo z1 (Nat.le_refl _) (by omega), EZ_mo z2 (Nat.le_refl _) (by omega)⟩⟩
    obtain ⟨e1, e2⟩ := EI_e hJ
    rw [e1, e2]
    refine T2_ite Iff.rfl (fun _ _ => ?_) (fun z _ => absurd rfl z)
    refine T2_ob (E_sw hXC (by omega) hJ) (fun r1 r2 hr => ?_)
    obtain ⟨k1, k2, g1, l1, B1, h1, X1, g2, l2, B2, h2, X2, hX, rm1, rm2⟩ := hr
    have ff1 := FE_tr f1 k1
    have ff2 := FE_tr f2 k2
    have tbl := tb _ _ ff1 ff2
    have b4 : ∀ M1 M2 : Nat → Int32, M1 1 = nI n → M2 1 = nI n → M1 100 = M2 100 → T2 (fun k => x_GV k (e + 1) 1 4 M1 r1.2) (fun k => x_GV k (e + 1) 1 4 M2 r2.2) (EQ (178000 + (e + 1)) t w XC σ1 σ2) := by
      intro M1 M2 j1 j2 j100
      refine T2_suc (fun k => e_bounds_4 k _ _ _) (fun k => e_bounds_4 k _ _ _) ?_
      rw [j1, j2, j100]
      refine T2_chk (n_in (by omega) (by omega)) (n_in (by omega) (by omega)) ?_
      rw [n_cl (p := n) (by omega), (tbl 7 _ (by omega) (by omega) (by omega)).1, (tbl 7 _ (by omega) (by omega) (by omega)).2]
      refine T2_ite Iff.rfl (fun z _ => ?_) (fun z _ => ?_)
      · refine T2_suc (fun k => e_bounds_5 k _ _ _) (fun k => e_bounds_5 k _ _ _) ?_
        exact b6 c w' _ _ r1.2 r2.2 g1 l1 B1 h1 X1 g2 l2 B2 h2 X2 (Or.inl ⟨rfl, hc2 z⟩) rfl rfl hw' ff1 ff2 hX rm1 rm2
      · exact b6 c w' _ _ r1.2 r2.2 g1 l1 B1 h1 X1 g2 l2 B2 h2 X2 (Or.inr ⟨show ¬ (1 : Int32) = 0 by decide, hc3 z⟩) rfl rfl hw' ff1 ff2 hX rm1 rm2
    rw [n1, o1]
    refine T2_chk (n_in (by omega) (by omega)) (n_in (by omega) (by omega)) ?_
    rw [n_cl (p := n) (by omega), (tbl 5 _ (by omega) (by omega) (by omega)).1, (tbl 5 _ (by omega) (by omega) (by omega)).2]
    refine T2_ite Iff.rfl (fun _ _ => b4 _ _ n1 o1 rfl) (fun _ _ => ?_)
    refine T2_suc (fun k => e_bounds_3 k _ _ _) (fun k => e_bounds_3 k _ _ _) ?_
    exact b4 _ _ n1 o1 rfl
  have b1 : ∀ (j w' : Nat) (N1 N2 : Nat → Int32) (τ1 τ2 : MS), (T 7 n = -1 → j = 1) → (¬ T 7 n = -1 → j = 2) → N1 1 = nI n → N2 1 = nI n → FE σ1 τ1 → FE σ2 τ2 → ((w ≤ w' ∧ EI (t + j) w' XC τ1 τ2) ∨ (EZ t (178000 + e) τ1 ∧ EZ t (178000 + e) τ2)) → T2 (fun k => x_GV k (e + 1) 1 1 N1 τ1) (fun k => x_GV k (e + 1) 1 1 N2 τ2) (EQ (178000 + (e + 1)) t w XC σ1 σ2) := by
    intro j w' N1 N2 τ1 τ2 hj1 hj2 n1 o1 f1 f2 h
    have hjb : j ≤ 2 := by
      by_cases z : T 7 n = -1
      · have := hj1 z; omega
      · have := hj2 z; omega
    refine T2_suc (fun k => e_bounds_1 k _ _ _) (fun k => e_bounds_1 k _ _ _) ?_
    rcases h with ⟨hw', hJ⟩ | ⟨z1, z2⟩
    case inr =>
      refine T2_ite ⟨fun z => absurd z (EZ_e z1), fun z => absurd z (EZ_e z2)⟩ (fun z _ => absurd z (EZ_e z1)) (fun _ _ => ?_)
      exact b2 (j + 1) w _ _ τ1 τ2 (fun z => by have := hj1 z; omega) (fun z => by have := hj2 z; omega) n1 o1 f1 f2 (Or.inr ⟨z1, z2⟩)
    obtain ⟨e1, e2⟩ := EI_e hJ
    rw [e1, e2, n1, o1]
    refine T2_ite Iff.rfl (fun _ _ => ?_) (fun z _ => absurd rfl z)
    refine T2_chk (n_in (by omega) (by omega)) (n_in (by omega) (by omega)) ?_
    rw [n_cl (p := n) (by omega), (tb _ _ f1 f2 8 _ (by omega) (by omega) (by omega)).1, (tb _ _ f1 f2 8 _ (by omega) (by omega) (by omega)).2]
    refine T2_od ?_
    refine T2_ob (ev (T 8 n) (t + j) w' τ1 τ2 _ _ W8 f1 hw' (by omega) hJ rfl rfl) (fun r1 r2 hr => ?_)
    obtain ⟨k1, k2, hr⟩ := hr
    rcases hr with ⟨w3, hw3, hJ3⟩ | ⟨z1, z2⟩
    · exact b2 (j + 1) w3 _ _ r1.2 r2.2 (fun z => by have := hj1 z; omega) (fun z => by have := hj2 z; omega) n1 o1 (FE_tr f1 k1) (FE_tr f2 k2) (Or.inl ⟨by omega, hJ3⟩)
    · exact b2 (j + 1) w _ _ r1.2 r2.2 (fun z => by have := hj1 z; omega) (fun z => by have := hj2 z; omega) n1 o1 (FE_tr f1 k1) (FE_tr f2 k2) (Or.inr ⟨EZ_mo z1 (by omega) (Nat.le_refl _), EZ_mo z2 (by omega) (Nat.le_refl _)⟩)
  refine T2_suc (fun k => e_bounds_0 k _ _ _) (fun k => e_bounds_0 k _ _ _) ?_
  rw [d1, d2]
  refine T2_chk (n_in (by omega) (by omega)) (n_in (by omega) (by omega)) ?_
  rw [n_cl (p := n) (by omega), hS1.1 6 _ (by omega) (by omega) (by omega), hS2.1 6 _ (by omega) (by omega) (by omega)]
  refine T2_od ?_
  refine T2_ob (ev (T 6 n) t w σ1 σ2 _ _ W6 FE_rf (Nat.le_refl _) (by omega) hI rfl rfl) (fun r1 r2 hr => ?_)
  obtain ⟨f1, f2, hr⟩ := hr
  refine T2_chk (n_in3 (by omega) (by omega)) (n_in3 (by omega) (by omega)) ?_
  rw [(tb _ _ f1 f2 7 _ (by omega) (by omega) (by omega)).1, (tb _ _ f1 f2 7 _ (by omega) (by omega) (by omega)).2]
  refine T2_ite Iff.rfl (fun z7 _ => ?_) (fun z7 _ => ?_)
  · rcases hr with ⟨w2, hw2, hJ⟩ | ⟨z1, z2⟩
    · exact b1 1 w2 _ _ r1.2 r2.2 (fun _ => rfl) (fun z => absurd z7 z) d1 d2 f1 f2 (Or.inl ⟨hw2, hJ⟩)
    · exact b1 1 w _ _ r1.2 r2.2 (fun _ => rfl) (fun z => absurd z7 z) d1 d2 f1 f2 (Or.inr ⟨z1, z2⟩)
  · rcases hr with ⟨w2, hw2, hJ⟩ | ⟨z1, z2⟩
    · obtain ⟨e1, e2⟩ := EI_e hJ
      rw [e1, e2]
      refine T2_ite Iff.rfl (fun _ _ => ?_) (fun z _ => absurd rfl z)
      refine T2_chk (n_in3 (by omega) (by omega)) (n_in3 (by omega) (by omega)) ?_
      refine T2_od ?_
      refine T2_ob (ev (T 7 n) (t + 1) w2 r1.2 r2.2 _ _ (W7.resolve_left z7) f1 hw2 (by omega) hJ rfl rfl) (fun s1 s2 hs => ?_)
      obtain ⟨k1, k2, hs⟩ := hs
      rcases hs with ⟨w3, hw3, hJ3⟩ | ⟨z1, z2⟩
      · exact b1 2 w3 _ _ s1.2 s2.2 (fun z => absurd z z7) (fun _ => rfl) d1 d2 (FE_tr f1 k1) (FE_tr f2 k2) (Or.inl ⟨by omega, hJ3⟩)
      · exact b1 2 w _ _ s1.2 s2.2 (fun z => absurd z z7) (fun _ => rfl) d1 d2 (FE_tr f1 k1) (FE_tr f2 k2) (Or.inr ⟨EZ_mo z1 (by omega) (Nat.le_refl _), EZ_mo z2 (by omega) (Nat.le_refl _)⟩)
    · refine T2_ite ⟨fun z => absurd z (EZ_e z1), fun z => absurd z (EZ_e z2)⟩ (fun z _ => absurd z (EZ_e z1)) (fun _ _ => ?_)
      exact b1 2 w _ _ r1.2 r2.2 (fun z => absurd z z7) (fun _ => rfl) d1 d2 f1 f2 (Or.inr ⟨z1, z2⟩)
end EBR
end JnS206
