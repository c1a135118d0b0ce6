/-! Evaluation on both sides (reference): contexts, truths, chains. -/
/-- the context of an evaluation -/
def PC (T : Nat → Nat → Int32) (FN : Nat → Nat → Prop) (O r K : Nat) (lc : Nat → Prop) (d t w XC : Nat) (σ : MS) : Prop := STb T FN σ ∧ XC ≤ 408500 ∧ O ≤ 20 ∧ r ≤ 14 ∧ (d ≤ 1300 ∧ XC + 5 * d ≤ 408500) ∧ 4 ≤ r ∧ w ≤ 60000 ∧ ∃ fu dp e, Cx lc fu dp e σ ∧ e + K ≤ 60 * (fu + 1) ∧ t ≤ w + 17000 + 1210 * (dp + 20 - O) + (14 - r) ∧ 15 * O + r + 15 * (60 - dp) ≤ d
/-- what is evaluated at depth d -/
def PE (T : Nat → Nat → Int32) (FN : Nat → Nat → Prop) (d : Nat) : Prop := ∀ (f O r K : Nat) (lc : Nat → Prop) (x : Int32) (t w XC : Nat) (σ1 σ2 : MS) (L1 L2 : Nat → Int32), WN T FN f 0 O r K lc x → PC T FN O r K lc d t w XC σ1 → EI t w XC σ1 σ2 → L1 1 = x → L2 1 = x → T2 (fun k => x_GV k d 4 0 L1 σ1) (fun k => x_GV k d 4 0 L2 σ2) (EQ (178000 + d) t w XC σ1 σ2)
def PEb (T : Nat → Nat → Int32) (FN : Nat → Nat → Prop) (d : Nat) : Prop := ∀ (f O r K : Nat) (lc : Nat → Prop) (x : Int32) (t w XC : Nat) (σ1 σ2 : MS) (L1 L2 : Nat → Int32), WN T FN f 1 O r K lc x → PC T FN O r K lc (d + 1) t w XC σ1 → EI t w XC σ1 σ2 → L1 1 = x → L2 1 = x → T2 (fun k => x_GV k d 0 0 L1 σ1) (fun k => x_GV k d 0 0 L2 σ2) (EQ (178000 + d) t w XC σ1 σ2)
def PEg (T : Nat → Nat → Int32) (FN : Nat → Nat → Prop) (d : Nat) : Prop := ∀ (f O r K : Nat) (lc : Nat → Prop) (x : Int32) (t w XC : Nat) (σ1 σ2 : MS) (L1 L2 : Nat → Int32), WN T FN f 2 O r K lc x → PC T FN O r K lc (d + 1) t w XC σ1 → EI (t + 1) w XC σ1 σ2 → L1 1 = x → L2 1 = x → T2 (fun k => x_GV k d 7 0 L1 σ1) (fun k => x_GV k d 7 0 L2 σ2) (EQ (178000 + d) t w XC σ1 σ2)
theorem n_in3 {p n : Nat} (h : p < n) (hp : p < 2147483648) : ¬ (nI p < 0 ∨ n ≤ p) := by
  intro z
  rcases z with z | z
  · have := (n_lt (q := 0) hp (by decide)).mp z
    omega
  · omega
section PCS
variable {T : Nat → Nat → Int32} {FN : Nat → Nat → Prop} {O r K d t w XC : Nat} {lc : Nat → Prop} {σ σ1 σ2 ρ : MS}
theorem PC_fe {w' : Nat} (h : PC T FN O r K lc d t w XC σ) (hF : FE σ ρ) (hw : w ≤ w') (hw2 : w' ≤ 60000) : PC T FN O r K lc d t w' XC ρ := by
  obtain ⟨a1, a2, a3, a4, a5, a6, _, fu, dp, e, c1, c2, c3, c4⟩ := h
  exact ⟨STb_fe a1 hF, a2, a3, a4, a5, a6, hw2, fu, dp, e, Cx_fe c1 hF, c2, by omega, c4⟩
/-- an operand -/
theorem PC_lo {O' r' t' d' : Nat} (h : PC T FN O r K lc d t w XC σ) (ho : (O' = O ∧ r' + 2 ≤ r) ∨ (O' < O ∧ r' ≤ 14)) (h4 : 4 ≤ r') (ht : t' ≤ t + 2) (hd : d ≤ d' + 2) (hd2 : d' ≤ d) : PC T FN O' r' K lc d' t' w XC σ := by
  obtain ⟨a1, a2, a3, a4, a5, a6, a7, fu, dp, e, c1, c2, c3, c4⟩ := h
  refine ⟨a1, a2, by omega, by omega, by omega, h4, a7, fu, dp, e, c1, c2, ?_, by omega⟩
  have := c1.2.2.2.1
  omega
/-- one level further in -/
theorem PC_in {K' t' d' : Nat} (h : PC T FN O r K lc d t w XC σ) (h1 : 1 ≤ O) (hK : K' ≤ K) (ht : t' ≤ t + 1200) (hd : d ≤ d' + 5) (hd2 : d' ≤ d) : PC T FN (O - 1) 14 K' lc d' t' w XC σ := by
  obtain ⟨a1, a2, a3, a4, a5, a6, a7, fu, dp, e, c1, c2, c3, c4⟩ := h
  refine ⟨a1, a2, by omega, by omega, by omega, by omega, a7, fu, dp, e, c1, by omega, ?_, by omega⟩
  have := c1.2.2.2.1
  omega
theorem PC_t (h : PC T FN O r K lc d t w XC σ) : t ≤ 174000 := by
  obtain ⟨a1, a2, a3, a4, a5, a6, a7, fu, dp, e, c1, c2, c3, c4⟩ := h
  have := c1.2.2.2.1
  omega
theorem EI_w (h : EI t w XC σ1 σ2) : w ≤ 60000 := by
  obtain ⟨_, _, _, _, _, _, _, _, _, _, _, _, _, _, _, _, _, _, _, z, _⟩ := h
  exact z.1
theorem EI_e (h : EI t w XC σ1 σ2) : σ1.1 56 = 0 ∧ σ2.1 56 = 0 := by
  obtain ⟨_, _, _, _, _, _, _, _, _, _, _, _, _, _, _, _, a, b, _⟩ := h
  exact ⟨a, b⟩
theorem EI_59 (h : EI t w XC σ1 σ2) : σ1.1 59 = nI t ∧ σ2.1 59 = nI t := by
  obtain ⟨_, _, _, _, _, _, _, _, _, _, _, _, hR, _, _, a, _⟩ := h
  exact ⟨a, (hR.2.2.1 59 (by unfold AlS; omega)).symm.trans a⟩
/-- tables are alike -/
theorem EI_row {a i : Nat} (h : EI t w XC σ1 σ2) (ha : (a = 17 ∨ a = 18) ∧ i < (σ1.1 30).toNatClampNeg) : σ2.2.2 a i = σ1.2.2 a i := by
  obtain ⟨_, _, _, _, _, _, _, _, _, _, _, _, hR, _⟩ := h
  exact (hR.2.1 a i (by unfold AlR; omega) (by unfold Zn; omega) (by unfold InA StU; omega)).symm
theorem EI_ST (h : EI t w XC σ1 σ2) (hS : STb T FN σ1) : STb T FN σ2 := by
  obtain ⟨_, _, _, _, _, _, _, _, _, _, _, _, hR, _⟩ := h
  exact STb_ra hR hS
theorem EZ_e {a b : Nat} (h : EZ a b σ) : ¬ σ.1 56 = 0 := by
  obtain ⟨_, _, _, _, _, _, _, _, _, z, _⟩ := h
  exact z
theorem EZ_mo {a b a' b' : Nat} (h : EZ a b σ) (ha : a' ≤ a) (hb : b ≤ b') : EZ a' b' σ := by
  obtain ⟨g, l, B, h', t, m, c1, c2, c3, c4⟩ := h
  exact ⟨g, l, B, h', t, m, c1, by omega, by omega, c4⟩
theorem EZ_le {a b : Nat} (h : EZ a b σ) : ¬ σ.1 56 ≤ 0 := by
  obtain ⟨_, _, _, _, _, _, _, _, _, z, q, _⟩ := h
  exact ErB_pos q z
/-- an error comes to be -/
theorem EZ_er {g : Nat → Prop} {l : List Nat} {B h X a b e : Nat} (hM : MI t X g l B h σ) (hX : X ≤ 870000) (h59 : σ.1 59 = nI t) (h56 : σ.1 56 = 0) (h57 : σ.1 57 = nI w) (hw : w ≤ 80000) (h95 : ∃ c, σ.1 95 = nI c ∧ c ≤ 1000000) (he : e ≤ 11) (he0 : ¬ nI e = 0) (ha : a ≤ t) (hb : t ≤ b) : EZ a b (mEr σ (nI e)) :=
  ⟨g, l, B, h, t, MI_X (MI_c hM (mEr_s (by decide)) (mEr_s (by decide)) (mEr_s (by decide)) (mEr_s (by decide)) rfl) hX, (mEr_s (by decide)).trans h59, ha, hb, mEr_e he0, ErB_er ⟨0, h56, by decide⟩ he, ⟨w, (mEr_s (by decide)).trans h57, hw⟩, by rw [mEr_s (by decide)]; exact h95⟩
theorem E_er {a b e : Nat} (hXC : XC ≤ 408500) (hE : EI t w XC σ1 σ2) (he : e ≤ 11) (he0 : ¬ nI e = 0) (ha : a ≤ t) (hb : t ≤ b) : EZ a b (mEr σ1 (nI e)) ∧ EZ a b (mEr σ2 (nI e)) := by
  obtain ⟨g1, l1, B1, h1, X1, g2, l2, B2, h2, X2, m1, m2, hR, i1, i2, t1, e1, e2, w1, hw, x1, x2, _, c, c1, c2⟩ := hE
  have al : ∀ j, AlS j → σ2.1 j = σ1.1 j := fun j h => (hR.2.2.1 j h).symm
  exact ⟨EZ_er m1 (by omega) t1 e1 w1 (by omega) ⟨c, c1, c2⟩ he he0 ha hb, EZ_er m2 (by omega) ((al 59 (by unfold AlS; omega)).trans t1) e2 ((al 57 (by unfold AlS; omega)).trans w1) (by omega) ⟨c, (al 95 (by unfold AlS; omega)).trans c1, c2⟩ he he0 ha hb⟩
/-- popped -/
theorem EI_dn {u : Nat} (hu : u ≤ t) (hE : EI t w XC σ1 σ2) : EI u w XC (mSc σ1 59 (nI u)) (mSc σ2 59 (nI u)) := by
  obtain ⟨g1, l1, B1, h1, X1, g2, l2, B2, h2, X2, m1, m2, hR, i1, i2, t1, e1, e2, w1, hw, x1, x2, y, c⟩ := hE
  exact ⟨g1, l1, B1, h1, X1, g2, l2, B2, h2, X2, MI_59 (MI_mo m1 hu), MI_59 (MI_mo m2 hu), RA_59 (RA_mo hu hR), IT_c rfl rfl rfl rfl i1, IT_c rfl rfl rfl rfl i2, rfl, e1, e2, w1, hw, x1, x2, y, c⟩
theorem VC_c {g1 g2 : Nat → Prop} {H1 H2 : Nat → Int32} {x y : Int32} {c : Nat} (hc : c < 3) (h : VC g1 g2 H1 H2 x y) : x = nI c ↔ y = nI c := by
  obtain ⟨a, b, c1, c2, c3, c4, c5, c6, c7⟩ := h
  rw [c1, c3]
  constructor
  · intro z
    have z := (n_eq (by omega) (by omega)).mp z
    rcases EVb_3 c5 with y | y
    · rw [y.2, z]
    · omega
  · intro z
    have z := (n_eq (by omega) (by omega)).mp z
    rcases EVb_3 c5 with y | y
    · rw [← y.2, z]
    · omega
theorem EI_top {i : Nat} (hi : i < t) (hE : EI t w XC σ1 σ2) : ∃ (g1 g2 : Nat → Prop), VC g1 g2 (σ1.2.2 28) (σ2.2.2 28) (σ1.2.2 29 i) (σ2.2.2 29 i) := by
  obtain ⟨g1, l1, B1, h1, X1, g2, l2, B2, h2, X2, m1, m2, hR, _⟩ := hE
  exact ⟨g1, g2, hR.1 29 i (Or.inl ⟨rfl, hi⟩) (by unfold VwR; omega)⟩
/-- a truth is popped -/
theorem E_isTrue (hXC : XC ≤ 408500) (ht : t < 185000) (hE : EI (t + 1) w XC σ1 σ2) (L1 L2 : Nat → Int32) : T2 (fun k => x_isTrue k 0 L1 σ1) (fun k => x_isTrue k 0 L2 σ2) (fun r1 r2 => r1.1 = r2.1 ∧ (r1.1 = 0 ∨ r1.1 = 1) ∧ FE σ1 r1.2 ∧ FE σ2 r2.2 ∧ (EI t w XC r1.2 r2.2 ∨ (EZ t t r1.2 ∧ EZ t t r2.2 ∧ r1.1 = 0))) := by
  obtain ⟨t1, t2⟩ := EI_59 hE
  obtain ⟨g1, g2, hv⟩ := EI_top (i := t) (by omega) hE
  have hD := EI_dn (show t ≤ t + 1 by omega) hE
  have fin : ∀ (c : Int32) (N1 N2 : Nat → Int32) (τ1 τ2 : MS), (c = 0 ∨ c = 1) → N1 100 = c → N2 100 = c → FE σ1 τ1 → FE σ2 τ2 → (EI t w XC τ1 τ2 ∨ (EZ t t τ1 ∧ EZ t t τ2 ∧ c = 0)) → T2 (fun k => x_isTrue k 3 N1 τ1) (fun k => x_isTrue k 3 N2 τ2) (fun r1 r2 => r1.1 = r2.1 ∧ (r1.1 = 0 ∨ r1.1 = 1) ∧ FE σ1 r1.2 ∧ FE σ2 r2.2 ∧ (EI t w XC r1.2 r2.2 ∨ (EZ t t r1.2 ∧ EZ t t r2.2 ∧ r1.1 = 0))) := by
    intro c N1 N2 τ1 τ2 hc n1 n2 f1 f2 h
    refine T2_suc (fun k => by rw [x_isTrue]) (fun k => by rw [x_isTrue]) ?_
    rw [n1, n2]
    exact T2_chk hc hc (T2_some ⟨rfl, hc, f1, f2, h⟩)
  have b1 : ∀ (N1 N2 : Nat → Int32) (τ1 τ2 : MS), (N1 1 = 2 ↔ N2 1 = 2) → FE σ1 τ1 → FE σ2 τ2 → (EI t w XC τ1 τ2 ∨ (EZ t t τ1 ∧ EZ t t τ2 ∧ ¬ N1 1 = 2)) → T2 (fun k => x_isTrue k 1 N1 τ1) (fun k => x_isTrue k 1 N2 τ2) (fun r1 r2 => r1.1 = r2.1 ∧ (r1.1 = 0 ∨ r1.1 = 1) ∧ FE σ1 r1.2 ∧ FE σ2 r2.2 ∧ (EI t w XC r1.2 r2.2 ∨ (EZ t t r1.2 ∧ EZ t t r2.2 ∧ r1.1 = 0))) := by
    intro N1 N2 τ1 τ2 hn f1 f2 h
    refine T2_suc (fun k => by rw [x_isTrue]) (fun k => by rw [x_isTrue]) ?_
    refine T2_ite hn (fun z _ => fin 1 _ _ _ _ (Or.inr rfl) rfl rfl f1 f2 ?_) (fun z _ => ?_)
    · rcases h with h | h
      · exact Or.inl h
      · exact absurd z h.2.2
    · refine T2_suc (fun k => by rw [x_isTrue]) (fun k => by rw [x_isTrue]) ?_
      exact fin 0 _ _ _ _ (Or.inl rfl) rfl rfl f1 f2 (h.imp id (fun y => ⟨y.1, y.2.1, rfl⟩))
  have f59 : ∀ σ : MS, FE σ (mSc σ 59 (nI t)) := fun σ => FE_sc (Or.inr (Or.inr (Or.inl rfl)))
  have v2 : σ1.2.2 29 t = 2 ↔ σ2.2.2 29 t = 2 := VC_c (c := 2) (by decide) hv
  have v1 : σ1.2.2 29 t = 1 ↔ σ2.2.2 29 t = 1 := VC_c (c := 1) (by decide) hv
  refine T2_suc (fun k => by rw [x_isTrue]) (fun k => by rw [x_isTrue]) ?_
  refine T2_ob (T2_t (s_pop t1 (by omega) _) (s_pop t2 (by omega) _)) (fun r1 r2 hr => ?_)
  rw [hr.1, hr.2]
  refine T2_ite v2 (fun _ _ => b1 _ _ _ _ v2 (f59 _) (f59 _) (Or.inl hD)) (fun z _ => ?_)
  refine T2_ite v1 (fun _ _ => b1 _ _ _ _ v2 (f59 _) (f59 _) (Or.inl hD)) (fun _ _ => ?_)
  refine T2_ob (T2_t (s_fail _ _) (s_fail _ _)) (fun s1 s2 hs => ?_)
  rw [hs.1, hs.2]
  obtain ⟨z1, z2⟩ := E_er (a := t) (b := t) (e := 9) hXC hD (by decide) (by decide) (Nat.le_refl _) (Nat.le_refl _)
  exact b1 _ _ _ _ v2 (FE_tr (f59 _) FE_er) (FE_tr (f59 _) FE_er) (Or.inr ⟨z1, z2, z⟩)
theorem s_isOver {σ : MS} (L : Nat → Int32) : Tm (fun k => x_isOver k 0 L σ) (fun r => r.2 = σ ∧ ((Ov (L 0) ∧ r.1 = 1) ∨ (¬ Ov (L 0) ∧ r.1 = 0))) := by
  have y : ∀ N : Nat → Int32, Ov (L 0) → Tm (fun k => x_isOver k 1 N σ) (fun r => r.2 = σ ∧ ((Ov (L 0) ∧ r.1 = 1) ∨ (¬ Ov (L 0) ∧ r.1 = 0))) := fun N h => by
    refine Tm_suc (fun k => by rw [x_isOver]) ?_
    refine Tm_suc (fun k => by rw [x_isOver]) ?_
    exact Tm_chk (Or.inr rfl) (Tm_some ⟨rfl, Or.inl ⟨h, rfl⟩⟩)
  refine Tm_suc (fun k => by rw [x_isOver]) ?_
  refine Tm_ite (fun z => y _ (Or.inl z)) (fun z1 => ?_)
  refine Tm_ite (fun z => y _ (Or.inr (Or.inl z))) (fun z2 => ?_)
  refine Tm_ite (fun z => y _ (Or.inr (Or.inr (Or.inl z)))) (fun z3 => ?_)
  refine Tm_ite (fun z => y _ (Or.inr (Or.inr (Or.inr (Or.inl z))))) (fun z4 => ?_)
  refine Tm_ite (fun z => y _ (Or.inr (Or.inr (Or.inr (Or.inr (Or.inl z)))))) (fun z5 => ?_)
  refine Tm_ite (fun z => y _ (Or.inr (Or.inr (Or.inr (Or.inr (Or.inr (Or.inl z))))))) (fun z6 => ?_)
  refine Tm_ite (fun z => y _ (Or.inr (Or.inr (Or.inr (Or.inr (Or.inr (Or.inr z))))))) (fun z7 => ?_)
  refine Tm_suc (fun k => by rw [x_isOver]) ?_
  refine Tm_suc (fun k => by rw [x_isOver]) ?_
  refine Tm_chk (Or.inl rfl) (Tm_some ⟨rfl, Or.inr ⟨fun h => ?_, rfl⟩⟩)
  rcases h with h | h | h | h | h | h | h
  · exact z1 h
  · exact z2 h
  · exact z3 h
  · exact z4 h
  · exact z5 h
  · exact z6 h
  · exact z7 h
/-- a chain is evaluated: what begins it, then one after another -/
theorem PE_of (hB : PEb T FN d) (hG : PEg T FN d) : PE T FN (d + 1) := by
  intro f O r K lc x t w XC σ1 σ2 L1 L2 hW hP hE d1 d2
  cases f with
  | zero => exact hW.elim
  | succ f =>
  have hW : _ := hW
  unfold WN at hW
  rcases hW with ⟨_, h4, n, k, ch, xn, chk, c70, clk, nov, hov, hbeg⟩ | ⟨z, _⟩ | ⟨z, _⟩ | ⟨z, _⟩ | ⟨z, _⟩ | ⟨z, _⟩ | ⟨z, _⟩
  case inr.inl => exact absurd z (by decide)
  case inr.inr.inl => exact absurd z (by decide)
  case inr.inr.inr.inl => exact absurd z (by decide)
  case inr.inr.inr.inr.inl => exact absurd z (by decide)
  case inr.inr.inr.inr.inr.inl => exact absurd z (by decide)
  case inr.inr.inr.inr.inr.inr => exact absurd z (by decide)
  have hS1 := hP.1
  have hS2 := EI_ST hE hS1
  -- one after another
  have b3 : ∀ (q i w' : Nat) (N1 N2 : Nat → Int32) (τ1 τ2 : MS), q + i = k → N1 1 = x → N2 1 = x → N1 2 = nI (ch i) → N2 2 = nI (ch i) → FE σ1 τ1 → FE σ2 τ2 → ((w ≤ w' ∧ EI (t + 1) w' XC τ1 τ2) ∨ (EZ t (178000 + d) τ1 ∧ EZ t (178000 + d) τ2)) → T2 (fun k => x_GV k (d + 1) 4 3 N1 τ1) (fun k => x_GV k (d + 1) 4 3 N2 τ2) (EQ (178000 + (d + 1)) t w XC σ1 σ2) := by
    intro q
    induction q with
    | zero =>
      intro i w' N1 N2 τ1 τ2 hi n1 o1 n2 o2 f1 f2 h
      have hik : i = k := by omega
      subst hik
      refine T2_suc (fun k => e_eval_3 k _ _ _) (fun k => e_eval_3 k _ _ _) ?_
      rw [n1, o1, n2, o2, chk, xn]
      refine T2_ite Iff.rfl (fun _ _ => ?_) (fun z _ => absurd rfl z)
      refine T2_suc (fun k => e_eval_4 k _ _ _) (fun k => e_eval_4 k _ _ _) ?_
      exact T2_some ⟨f1, f2, h.imp (fun y => ⟨w', y.1, y.2⟩) (fun y => ⟨EZ_mo y.1 (Nat.le_refl _) (by omega), EZ_mo y.2 (Nat.le_refl _) (by omega)⟩)⟩
    | succ q ih =>
      intro i w' N1 N2 τ1 τ2 hi n1 o1 n2 o2 f1 f2 h
      have b4 : ∀ M1 M2 : Nat → Int32, T2 (fun k => x_GV k (d + 1) 4 4 M1 τ1) (fun k => x_GV k (d + 1) 4 4 M2 τ2) (EQ (178000 + (d + 1)) t w XC σ1 σ2) := fun M1 M2 => by
        refine T2_suc (fun k => e_eval_4 k _ _ _) (fun k => e_eval_4 k _ _ _) ?_
        exact T2_some ⟨f1, f2, h.imp (fun y => ⟨w', y.1, y.2⟩) (fun y => ⟨EZ_mo y.1 (Nat.le_refl _) (by omega), EZ_mo y.2 (Nat.le_refl _) (by omega)⟩)⟩
      have hci := c70 i (by omega)
      have e9a : τ1.2.2 9 (ch i) = nI (ch (i + 1)) := by rw [(STb_fe hS1 f1).1 9 _ (by omega) (by omega) (by omega)]; exact (clk i (by omega)).2
      have e9b : τ2.2.2 9 (ch i) = nI (ch (i + 1)) := by rw [(STb_fe hS2 f2).1 9 _ (by omega) (by omega) (by omega)]; exact (clk i (by omega)).2
      refine T2_suc (fun k => e_eval_3 k _ _ _) (fun k => e_eval_3 k _ _ _) ?_
      rw [n1, o1, n2, o2]
      refine T2_ite Iff.rfl (fun _ _ => b4 _ _) (fun _ _ => ?_)
      rcases h with ⟨hw', hI⟩ | ⟨z1, z2⟩
      · obtain ⟨e1, e2⟩ := EI_e hI
        rw [e1, e2]
        refine T2_ite Iff.rfl (fun _ _ => ?_) (fun z _ => absurd rfl z)
        refine T2_chk (n_in (by omega) (by omega)) (n_in (by omega) (by omega)) ?_
        rw [n_cl (p := ch i) (by omega), e9a, e9b]
        refine T2_od ?_
        have hw60 := EI_w hI
        refine T2_ob (hG f O r K lc (nI (ch (i + 1))) t w' XC τ1 τ2 _ _ (hov (i + 1) (by omega) (by omega)).2 (PC_fe hP f1 hw' hw60) hI rfl rfl) (fun r1 r2 hr => ?_)
        obtain ⟨g1, g2, hr⟩ := hr
        rcases hr with ⟨w2, hw2, hI2⟩ | hz
        · exact ih (i + 1) w2 _ _ r1.2 r2.2 (by omega) n1 o1 rfl rfl (FE_tr f1 g1) (FE_tr f2 g2) (Or.inl ⟨by omega, hI2⟩)
        · exact ih (i + 1) w' _ _ r1.2 r2.2 (by omega) n1 o1 rfl rfl (FE_tr f1 g1) (FE_tr f2 g2) (Or.inr hz)
      · exact T2_ite ⟨fun z => absurd z (EZ_e z1), fun z => absurd z (EZ_e z2)⟩ (fun z _ => absurd z (EZ_e z1)) (fun _ _ => b4 _ _)
  -- down to what begins
  have b1 : ∀ (i : Nat) (N1 N2 : Nat → Int32), i ≤ k → N1 1 = x → N2 1 = x → N1 2 = nI (ch i) → N2 2 = nI (ch i) → T2 (fun k => x_GV k (d + 1) 4 1 N1 σ1) (fun k => x_GV k (d + 1) 4 1 N2 σ2) (EQ (178000 + (d + 1)) t w XC σ1 σ2) := by
    intro i
    induction i with
    | zero =>
      intro N1 N2 hi n1 o1 n2 o2
      have h0 := c70 0 (by omega)
      refine T2_suc (fun k => e_eval_1 k _ _ _) (fun k => e_eval_1 k _ _ _) ?_
      rw [n2, o2]
      refine T2_chk (n_in (by omega) (by omega)) (n_in (by omega) (by omega)) ?_
      rw [n_cl (p := ch 0) (by omega), hS1.1 4 _ (by omega) (by omega) (by omega), hS2.1 4 _ (by omega) (by omega) (by omega)]
      refine T2_ob (T2_t (s_isOver _) (s_isOver _)) (fun r1 r2 hr => ?_)
      obtain ⟨⟨a1, a2⟩, ⟨b1, b2⟩⟩ := hr
      have a2 : r1.1 = 0 := (a2.resolve_left (fun z => nov z.1)).2
      have b2 : r2.1 = 0 := (b2.resolve_left (fun z => nov z.1)).2
      rw [a1, b1, a2, b2]
      refine T2_ite Iff.rfl (fun _ _ => ?_) (fun z _ => absurd rfl z)
      refine T2_suc (fun k => e_eval_2 k _ _ _) (fun k => e_eval_2 k _ _ _) ?_
      rw [n2, o2]
      refine T2_od ?_
      refine T2_ob (hB f O r K lc (nI (ch 0)) t w XC σ1 σ2 _ _ hbeg hP hE rfl rfl) (fun s1 s2 hs => ?_)
      obtain ⟨f1, f2, hs⟩ := hs
      rcases hs with ⟨w2, hw2, hI⟩ | hz
      · exact b3 k 0 w2 _ _ s1.2 s2.2 (by omega) n1 o1 n2 o2 f1 f2 (Or.inl ⟨hw2, hI⟩)
      · exact b3 k 0 w _ _ s1.2 s2.2 (by omega) n1 o1 n2 o2 f1 f2 (Or.inr hz)
    | succ i ih =>
      intro N1 N2 hi n1 o1 n2 o2
      have h0 := c70 (i + 1) (by omega)
      refine T2_suc (fun k => e_eval_1 k _ _ _) (fun k => e_eval_1 k _ _ _) ?_
      rw [n2, o2]
      refine T2_chk (n_in (by omega) (by omega)) (n_in (by omega) (by omega)) ?_
      rw [n_cl (p := ch (i + 1)) (by omega), hS1.1 4 _ (by omega) (by omega) (by omega), hS2.1 4 _ (by omega) (by omega) (by omega)]
      refine T2_ob (T2_t (s_isOver _) (s_isOver _)) (fun r1 r2 hr => ?_)
      obtain ⟨⟨a1, a2⟩, ⟨b1, b2⟩⟩ := hr
      have ho := (hov (i + 1) (by omega) (by omega)).1
      have a2 : r1.1 = 1 := (a2.resolve_right (fun z => z.1 ho)).2
      have b2 : r2.1 = 1 := (b2.resolve_right (fun z => z.1 ho)).2
      rw [a1, b1, a2, b2]
      refine T2_ite Iff.rfl (fun z _ => absurd z (by decide)) (fun _ _ => ?_)
      refine T2_chk (n_in3 (by omega) (by omega)) (n_in3 (by omega) (by omega)) ?_
      rw [hS1.1 6 _ (by omega) (by omega) (by omega), hS2.1 6 _ (by omega) (by omega) (by omega), (clk i (by omega)).1]
      exact ih _ _ (by omega) n1 o1 rfl rfl
  refine T2_suc (fun k => e_eval_0 k _ _ _) (fun k => e_eval_0 k _ _ _) ?_
  exact b1 k _ _ (Nat.le_refl _) d1 d2 (by show L1 1 = _; rw [d1, xn, chk]) (by show L2 1 = _; rw [d2, xn, chk])
end PCS
