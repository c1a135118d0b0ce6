/-! Statements on both sides (reference): the parts of a target are read. -/
/-- what lies upon the pile below u keeps its kind, its size, its length -/
def PKp (u : Nat) (σ ρ : MS) : Prop := ∀ i, i < u → szV ρ 29 i = szV σ 29 i
theorem PK_rf {u : Nat} {σ : MS} : PKp u σ σ := fun _ _ => rfl
theorem PK_tr {u : Nat} {σ τ ρ : MS} (a : PKp u σ τ) (b : PKp u τ ρ) : PKp u σ ρ := fun i hi => (b i hi).trans (a i hi)
theorem PK_mo {u v : Nat} {σ ρ : MS} (h : u ≤ v) (a : PKp v σ ρ) : PKp u σ ρ := fun i hi => a i (by omega)
theorem PK_28 {u : Nat} {σ ρ : MS} (h28 : ρ.2.2 28 = σ.2.2 28) (h29 : ∀ i, i < u → ρ.2.2 29 i = σ.2.2 29 i) : PKp u σ ρ := fun i hi => by unfold szV; rw [h28, h29 i hi]
theorem PK_pi {u t : Nat} {σ : MS} {x : Int32} (h : u ≤ t) : PKp u σ (mAr σ 29 t x) := PK_28 (mAr_o (by decide)) (fun i hi => by rw [mAr_s, upd_other (by omega)])
theorem PK_pu {u t : Nat} {σ : MS} {x : Int32} (h : u ≤ t) : PKp u σ (mPu σ t x) := PK_pi (σ := σ) (t := t) (x := x) h
theorem PK_eo {t : Nat} {g g' : Nat → Prop} {σ ρ : MS} (hE : EO t g σ g' ρ) : PKp t σ ρ := fun i hi => by
  obtain ⟨m, m', e1, v1, e2, v2, ev, b1, b2⟩ := hE.1 29 i (Or.inl ⟨rfl, hi⟩)
  unfold szV
  rw [e1, e2, n_cl (p := m) (by omega), n_cl (p := m') (by omega), (EVb_sz ev).1, (EVb_sz ev).2.2]
  rcases EVb_3 ev with ⟨z, y⟩ | ⟨z, y⟩
  · rw [y, if_pos z, if_pos z]
  · rw [if_neg (by omega), if_neg (by omega), EVb_hd ev z (i := 1) (by omega)]
/-- a sweep: the pile keeps what it has -/
theorem E_swP {t w XC : Nat} {σ1 σ2 : MS} (hXC : XC ≤ 408500) (ht : t ≤ 185000) (hE : EI t w XC σ1 σ2) : T2 (fun k => x_sweep k 0 (upd (fun _ => 0) 1 780000) σ1) (fun k => x_sweep k 0 (upd (fun _ => 0) 1 780000) σ2) (fun r1 r2 => (FE σ1 r1.2 ∧ FE σ2 r2.2 ∧ ∃ (g1 : Nat → Prop) (l1 : List Nat) (B1 h1 X1 : Nat) (g2 : Nat → Prop) (l2 : List Nat) (B2 h2 X2 : Nat), EIx t w XC r1.2 r2.2 g1 l1 B1 h1 X1 g2 l2 B2 h2 X2 ∧ h1 + 79900 ≤ B1 + 870000 ∧ h2 + 79900 ≤ B2 + 870000) ∧ PKp t σ1 r1.2) := by
  have e := E_sw hXC ht hE
  obtain ⟨g1, l1, B1, h1, X1, g2, l2, B2, h2, X2, m1, m2, hR, i1, i2, t1, e1, e2, w1, hw, x1, x2, ⟨ty1, ty2⟩, a, a1, a2⟩ := hE
  have t2 : σ2.1 59 = nI t := (hR.2.2.1 59 (by unfold AlS; omega)).symm.trans t1
  refine T2_and e (T2_mono (T2_of (MI_sw (T := 780000) m1 t1 ht rfl (by decide)) (MI_sw (T := 780000) m2 t2 ht rfl (by decide)) (fun n => k_sweep (XM := 780000) (by omega) m1 m2 hR t1 ht (by omega) (by omega) rfl rfl)) (fun r1 r2 hr => ?_))
  obtain ⟨⟨gA, lA, BA, hA, gB, lB, BB, hB, a1', a2', a3, a4, a5, a6, a7, a8, a9⟩, _, _⟩ := hr
  exact PK_eo a4
section EA1
variable {g1 g2 : Nat → Prop} {l1 l2 : List Nat} {B1 h1 B2 h2 X1 X2 t w XC : Nat} {ρ1 ρ2 : MS}
/-- an answer is counted (one at the least) and pushed -/
theorem E_an1 {c : Nat} {Q : Int32 × MS → Int32 × MS → Prop} {F1 F2 : Nat → Int32 × MS → Option (Int32 × MS)} {r1 r2 : Int32 × MS} (m1 : MI t X1 g1 l1 B1 h1 ρ1) (m2 : MI t X2 g2 l2 B2 h2 ρ2) (hR : RA t g1 g2 ρ1 ρ2) (i1 : IT g1 ρ1) (i2 : IT g2 ρ2) (ht : t ≤ 176000 ∧ XC - 400000 + 10 ≤ c) (hT : TyT (ρ1.2.2 2)) (hT2 : ρ1.2.2 2 = ρ2.2.2 2) (ha : ∃ a, r1.2.1 95 = nI a ∧ a ≤ 1000000) (ha2 : r1.2.1 95 = r2.2.1 95)
    (s1 : SO t w XC g1 ρ1 r1) (s2 : SO t w XC g2 ρ2 r2) (hK : KS c r1 r2) (hQ : ∀ v1 v2 : Int32 × MS, FE ρ1 v1.2 → FE ρ2 v2.2 → PKp t ρ1 v1.2 → ((∃ w', w + 1 ≤ w' ∧ EI (t + 1) w' XC v1.2 v2.2) ∨ (EZ t (t + 2001) v1.2 ∧ EZ t (t + 2001) v2.2)) → T2 (fun k => F1 k v1) (fun k => F2 k v2) Q) :
    T2 (fun k => ob (x_answer k 0 (upd (fun _ => 0) 1 r1.1) r1.2) (fun u => ob (x_push k 0 (upd (fun _ => 0) 1 u.1) u.2) (F1 k))) (fun k => ob (x_answer k 0 (upd (fun _ => 0) 1 r2.1) r2.2) (fun u => ob (x_push k 0 (upd (fun _ => 0) 1 u.1) u.2) (F2 k))) Q := by
  obtain ⟨gA, lA, BA, hA, XA, wA, tA, a1, a2, a3, a4, a5, a6, a7, ⟨a8, a9, a10, a11⟩, a12⟩ := s1
  obtain ⟨gB, lB, BB, hB, XB, wB, tB, b1, b2, b3, b4, b5, b6, b7, ⟨b8, b9, b10, b11⟩, b12⟩ := s2
  have f1 := FE_eo m1.2.1 a2
  have f2 := FE_eo m2.2.1 b2
  obtain ⟨c1, c2, c3⟩ := a3
  obtain ⟨d1, d2, d3⟩ := b3
  have ha' : ∃ a, r2.2.1 95 = nI a ∧ a ≤ 1000000 := by rw [← ha2]; exact ha
  by_cases er : r1.2.1 56 = 0
  · have er2 := hK.1.1.mp er
    obtain ⟨⟨⟨rB1, rh1, rm1, rm2, rm3, rm4⟩, ⟨rB2, rh2, rn1, rn2, rn3, rn4⟩⟩, k57, u, v, k1, k2, k3, k4, k5⟩ := hK.1.2 er
    have room : hA + (XC - 400000) + 10 ≤ BA + 870000 ∧ hB + (XC - 400000) + 10 ≤ BB + 870000 := by
      have p1 := HS_b a1.1
      have p2 := HS_b b1.1
      have p3 := a1.1.2.1
      have p4 := b1.1.2.1
      have e1 : BA = rB1 := (n_eq (by omega) (by omega)).mp (a1.1.1.symm.trans rm1)
      have e2 : BB = rB2 := (n_eq (by omega) (by omega)).mp (b1.1.1.symm.trans rn1)
      have e3 : hA = rh1 := (n_eq (by omega) (by omega)).mp (a1.1.2.2.1.symm.trans rm3)
      have e4 : hB = rh2 := (n_eq (by omega) (by omega)).mp (b1.1.2.2.1.symm.trans rn3)
      omega
    have e1 : tA = t := a11.resolve_right (fun z => z er)
    have e2 : tB = t := b11.resolve_right (fun z => z er2)
    subst e1
    subst e2
    have ew : wB = wA := by
      have z := b5.symm.trans (k57.symm.trans a5)
      exact (n_eq (by omega) (by omega)).mp z
    subst ew
    have bc := HS_vb a1.1 c3
    have bd := HS_vb b1.1 d3
    have eu : c1 = u := (n_eq (by omega) (by omega)).mp (c2.symm.trans k1)
    have ev : d1 = v := (n_eq (by omega) (by omega)).mp (d2.symm.trans k2)
    subst eu
    subst ev
    have hR' := RA_step m1.2.1 m2.2.1 hR a2 b2 k57 (a8.trans b8.symm) hK.2
    have j1 : IT gA r1.2 := IT_eo m1.2.1 m1.1 (Or.inr ⟨BA, hA, a1.1⟩) a2 i1
    have j2 : IT gB r2.2 := IT_eo m2.2.1 m2.1 (Or.inr ⟨BB, hB, b1.1⟩) b2 i2
    have x1 := a12 er
    have x2 := b12 er2
    refine T2_ob (T2_of (s_answer a1.1 c3 a5 (by omega) (by exact c2)) (s_answer b1.1 d3 b5 (by omega) (by exact d2)) (fun n => Pm_wl (fun k => wl_answer k _ _ _) (fun k => wl_answer k _ _ _) (k_answer a1.1 b1.1 c3 d3 k5 er er2 a5 b5 (by omega) (by exact c2) (by exact d2)))) (fun z1 z2 hz => ?_)
    obtain ⟨⟨⟨y1, y2, y3, y4⟩, wl1, wl2⟩, _, _⟩ := hz
    have ys1 : ∀ j, j ≠ 56 → j ≠ 57 → z1.2.1 j = r1.2.1 j := fun j q1 q2 => WkO_s y3 q1 q2
    have ys2 : ∀ j, j ≠ 56 → j ≠ 57 → z2.2.1 j = r2.2.1 j := fun j q1 q2 => WkO_s y4 q1 q2
    have n1 : MI tB XA gA lA BA hA z1.2 := MI_c a1 (ys1 54 (by decide) (by decide)) (ys1 55 (by decide) (by decide)) (ys1 63 (by decide) (by decide)) (ys1 72 (by decide) (by decide)) (WkO_a y3)
    have n2 : MI tB XB gB lB BB hB z2.2 := MI_c b1 (ys2 54 (by decide) (by decide)) (ys2 55 (by decide) (by decide)) (ys2 63 (by decide) (by decide)) (ys2 72 (by decide) (by decide)) (WkO_a y4)
    have z59 : z1.2.1 59 = nI tB := (ys1 59 (by decide) (by decide)).trans a8
    have w59 : z2.2.1 59 = nI tB := (ys2 59 (by decide) (by decide)).trans b8
    refine T2_ob (T2_t (s_push z59 (by omega) _) (s_push w59 (by omega) _)) (fun v1 v2 hv => ?_)
    rw [hv.1, hv.2]
    show T2 (fun k => F1 k (0, mPu z1.2 tB z1.1)) (fun k => F2 k (0, mPu z2.2 tB z2.1)) Q
    rw [y1, y2]
    refine hQ _ _ (FE_tr f1 (FE_tr (FE_wk y3) FE_pu)) (FE_tr f2 (FE_tr (FE_wk y4) FE_pu)) (PK_tr (PK_eo a2) (PK_tr (PK_28 (congrFun (WkO_a y3) 28) (fun i _ => congrFun (congrFun (WkO_a y3) 29) i)) (PK_pu (Nat.le_refl _)))) ?_
    have s28 : z1.2.2.2 28 = r1.2.2.2 28 := congrFun (WkO_a y3) 28
    have t28 : z2.2.2.2 28 = r2.2.2.2 28 := congrFun (WkO_a y4) 28
    have one := (szN_b a1.1 c3).1
    by_cases le : wB + szN (r1.2.2.2 28) c1 ≤ 60000
    · have zr1 := (WkO_er er y3).mpr le
      have zr2 := (WkO_er er2 y4).mpr le
      have y57 : z1.2.1 57 = nI (wB + szN (r1.2.2.2 28) c1) := WkO_57 y3
      refine Or.inl ⟨wB + szN (r1.2.2.2 28) c1, by omega, gA, lA, BA, hA, XA + 6 * szN (z1.2.2.2 28) c1, gB, lB, BB, hB, XB + 6 * szN (z2.2.2.2 28) d1, MI_pu n1 c3, MI_pu n2 d3, ?_, ?_, ?_, rfl, ?_, ?_, ?_, ⟨le, room⟩, ?_, ?_, ⟨?_, ?_⟩, ?_⟩
      · refine RA_pu n1.2.1 (RA_c hR' (WkO_a y3) (WkO_a y4) (ys1 63 (by decide) (by decide)) (ys1 72 (by decide) (by decide)) (ys1 22 (by decide) (by decide)) (ys1 24 (by decide) (by decide)) (ys1 30 (by decide) (by decide)) (ys1 44 (by decide) (by decide)) (fun j hj => ?_) ?_) ?_
        · by_cases e57 : j = 57
          · rw [e57, y57, WkO_57 y4]
          · rw [ys1 j (by unfold AlS at hj; omega) e57, ys2 j (by unfold AlS at hj; omega) e57]
            exact hR'.2.2.1 j hj
        · rw [wl1, wl2]; exact hK.2
        · rw [s28, t28]; exact ⟨c1, d1, rfl, c3, rfl, d3, k5, bc, bd⟩
      · exact IT_c ((mPu_s (by decide)).trans (ys1 72 (by decide) (by decide))) ((mPu_o (by decide)).trans (congrFun (WkO_a y3) 34)) ((mPu_o (by decide)).trans (congrFun (WkO_a y3) 35)) ((mPu_o (by decide)).trans s28) j1
      · exact IT_c ((mPu_s (by decide)).trans (ys2 72 (by decide) (by decide))) ((mPu_o (by decide)).trans (congrFun (WkO_a y4) 34)) ((mPu_o (by decide)).trans (congrFun (WkO_a y4) 35)) ((mPu_o (by decide)).trans t28) j2
      · rw [mPu_s (by decide)]; exact zr1
      · rw [mPu_s (by decide)]; exact zr2
      · rw [mPu_s (by decide)]; exact y57
      · rw [s28]; omega
      · rw [t28, (EVb_sz k5).1]; omega
      · rw [mPu_o (by decide), congrFun (WkO_a y3) 2, f1.2.2.1]; exact hT
      · rw [mPu_o (by decide), mPu_o (by decide), congrFun (WkO_a y3) 2, congrFun (WkO_a y4) 2, f1.2.2.1, f2.2.2.1]; exact hT2
      · rw [mPu_s (by decide), ys1 95 (by decide) (by decide)]; exact ha
    · have zr1 : ¬ z1.2.1 56 = 0 := fun y => le ((WkO_er er y3).mp y)
      have zr2 : ¬ z2.2.1 56 = 0 := fun y => le ((WkO_er er2 y4).mp y)
      have sz := szN_b a1.1 c3
      refine Or.inr ⟨EZ_pu n1 z59 (by omega) (by omega) zr1 (WkO_E y3 a4) ⟨_, WkO_57 y3, by omega⟩ (by rw [ys1 95 (by decide) (by decide)]; exact ha) ⟨c1, rfl, c3⟩, EZ_pu n2 w59 (by omega) (by omega) zr2 (WkO_E y4 b4) ⟨_, WkO_57 y4, by omega⟩ (by rw [ys2 95 (by decide) (by decide)]; exact ha') ⟨d1, rfl, d3⟩⟩
  · have er2 : ¬ r2.2.1 56 = 0 := fun z => er (hK.1.1.mpr z)
    have an : ∀ (r : Int32 × MS), ¬ r.2.1 56 = 0 → Tm (fun k => x_answer k 0 (upd (fun _ => 0) 1 r.1) r.2) (fun s => s = r) := fun r he => by
      refine Tm_suc (fun k => by rw [x_answer]) ?_
      refine Tm_ite (fun z => absurd z he) (fun _ => ?_)
      refine Tm_suc (fun k => by rw [x_answer]) ?_
      exact Tm_some rfl
    refine T2_ob (T2_t (an r1 er) (an r2 er2)) (fun z1 z2 hz => ?_)
    rw [hz.1, hz.2]
    refine T2_ob (T2_t (s_push a8 (by omega) _) (s_push b8 (by omega) _)) (fun v1 v2 hv => ?_)
    rw [hv.1, hv.2]
    show T2 (fun k => F1 k (0, mPu r1.2 tA r1.1)) (fun k => F2 k (0, mPu r2.2 tB r2.1)) Q
    refine hQ _ _ (FE_tr f1 FE_pu) (FE_tr f2 FE_pu) (PK_tr (PK_eo a2) (PK_pu a9)) (Or.inr ⟨EZ_pu a1 a8 a9 (by omega) er a4 ⟨_, a5, by omega⟩ ha ⟨c1, c2, c3⟩, EZ_pu b1 b8 b9 (by omega) er2 b4 ⟨_, b5, by omega⟩ ha' ⟨d1, d2, d3⟩⟩)
end EA1
/-- behind readParts: the variable and jj parts lie upon the pile -/
def RPq (t jj w XC : Nat) (σ1 σ2 : MS) (r1 r2 : Int32 × MS) : Prop := FE σ1 r1.2 ∧ FE σ2 r2.2 ∧ ((∃ w', w + jj ≤ w' ∧ EI (t + 1 + jj) w' XC r1.2 r2.2) ∨ (EZ t 179300 r1.2 ∧ EZ t 179300 r2.2))
section RDP
variable {T : Nat → Nat → Int32} {FN : Nat → Nat → Prop} {lc : Nat → Prop} {t w XC k u : Nat} {σ σ1 σ2 ρ : MS} {x : Int32} {ch : Nat → Nat}
theorem rp_6 {τ : MS} {N : Nat → Int32} : Tm (fun n => x_readParts n 6 N τ) (fun r => r = (0, τ)) := Tm_suc (fun n => by rw [x_readParts]) (Tm_some rfl)
/-- with an error it ends -/
theorem rp_z (h : Tgt T FN lc k ch) {i : Nat} (hi : i ≤ k) {τ : MS} (he : ¬ τ.1 56 = 0) {N : Nat → Int32} (n4 : N 4 = nI (ch i)) : Tm (fun n => x_readParts n 1 N τ) (fun r => r = (0, τ)) := by
  have b := h.1 i hi
  have two : Tm (fun n => x_readParts n 2 N τ) (fun r => r = (0, τ)) := by
    refine Tm_suc (fun n => by rw [x_readParts]) ?_
    exact Tm_ite (fun z => absurd z he) (fun _ => rp_6)
  refine Tm_suc (fun n => by rw [x_readParts]) ?_
  refine Tm_ite (fun _ => rp_6) (fun _ => Tm_ite (fun _ => ?_) (fun _ => two))
  rw [n4]
  refine Tm_chk (n_in (by omega) (by omega)) ?_
  exact Tm_ite (fun _ => rp_6) (fun _ => two)
/-- it ends at its last part -/
theorem rp_x (h : Tgt T FN lc k ch) {i : Nat} {fl : Int32} (hi : i = (if fl = 0 then k - 1 else k)) {τ : MS} (r9 : ∀ i, (1 ≤ i ∧ i < LNo T % 70001) → τ.2.2 9 i = T 9 i) {N : Nat → Int32} (n1 : N 1 = nI (ch k)) (n3 : N 3 = fl) (n4 : N 4 = nI (ch i)) : Tm (fun n => x_readParts n 1 N τ) (fun r => r = (0, τ)) := by
  have ik : i ≤ k := by rw [hi]; split <;> omega
  have b := h.1 i ik
  refine Tm_suc (fun n => by rw [x_readParts]) ?_
  rw [n1, n3, n4]
  refine Tm_ite (fun _ => rp_6) (fun z => ?_)
  have ne : ¬ i = k := fun e => z ((Tgt_eq h ik).mpr e)
  refine Tm_ite (fun y => ?_) (fun y => ?_)
  · refine Tm_chk (n_in (by omega) (by omega)) ?_
    rw [if_pos y] at hi
    rw [n_cl (p := ch i) (by omega), r9 _ (by omega), (h.2.2 i (by omega)).2.1, show i + 1 = k by omega]
    exact Tm_ite (fun _ => rp_6) (fun z => absurd rfl z)
  · rw [if_neg y] at hi
    exact absurd hi ne
/-- the variable, then part by part -/
theorem E_readPartsP (hX : XC ≤ 402000) (h : Tgt T FN lc k ch) (ht : t + k ≤ 120000 ∧ t ≤ 90000) (hu : u + kys T ch k ≤ t) (hS : Sc0 T FN lc σ1) (hI : EI t w XC σ1 σ2) {fl : Int32} {L1 L2 : Nat → Int32} (d1 : L1 1 = nI (ch k)) (d2 : L2 1 = nI (ch k)) (u1 : L1 2 = nI u) (u2 : L2 2 = nI u) (q1 : L1 3 = fl) (q2 : L2 3 = fl) : T2 (fun n => x_readParts n 0 L1 σ1) (fun n => x_readParts n 0 L2 σ2) (fun r1 r2 => RPq t (if fl = 0 then k - 1 else k) w XC σ1 σ2 r1 r2 ∧ (r1.2.1 56 = 0 → PKp t σ1 r1.2)) := by
  have hS2 := Sc0_ei hS hI
  have tb : ∀ (τ1 τ2 : MS), FE σ1 τ1 → FE σ2 τ2 → ∀ a i, 4 ≤ a → a ≤ 9 → (1 ≤ i ∧ i < LNo T % 70001) → τ1.2.2 a i = T a i ∧ τ2.2.2 a i = T a i := fun τ1 τ2 f1 f2 a i h1 h2 h3 => ⟨(STb_fe hS.1 f1).1 a i h1 (by omega) ⟨fun _ => h3, fun z => by omega⟩, (STb_fe hS2.1 f2).1 a i h1 (by omega) ⟨fun _ => h3, fun z => by omega⟩⟩
  have jk : (if fl = 0 then k - 1 else k) ≤ k := by split <;> omega
  have lp : ∀ (q i : Nat), q + i = (if fl = 0 then k - 1 else k) → ∀ (w' : Nat) (τ1 τ2 : MS) (N1 N2 : Nat → Int32), w + i ≤ w' → FE σ1 τ1 → FE σ2 τ2 → PKp t σ1 τ1 → EI (t + 1 + i) w' XC τ1 τ2 → N1 1 = nI (ch k) → N2 1 = nI (ch k) → N1 3 = fl → N2 3 = fl → N1 4 = nI (ch i) → N2 4 = nI (ch i) → N1 5 = nI (u + kys T ch i) → N2 5 = nI (u + kys T ch i) → T2 (fun n => x_readParts n 1 N1 τ1) (fun n => x_readParts n 1 N2 τ2) (fun r1 r2 => RPq t (if fl = 0 then k - 1 else k) w XC σ1 σ2 r1 r2 ∧ (r1.2.1 56 = 0 → PKp t σ1 r1.2)) := by
    intro q
    induction q with
    | zero =>
      intro i hi w' τ1 τ2 N1 N2 hw f1 f2 pk hJ a1 a2 b1 b2 c1 c2 _ _
      have e : i = (if fl = 0 then k - 1 else k) := by omega
      refine T2_mono (T2_t (rp_x h e (fun j hj => (tb τ1 τ2 f1 f2 9 j (by omega) (by omega) hj).1) a1 b1 c1) (rp_x h e (fun j hj => (tb τ1 τ2 f1 f2 9 j (by omega) (by omega) hj).2) a2 b2 c2)) (fun r1 r2 hr => ?_)
      rw [hr.1, hr.2]
      exact ⟨⟨f1, f2, Or.inl ⟨w', by rw [← e]; exact hw, by rw [← e]; exact hJ⟩⟩, fun _ => pk⟩
    | succ q ih =>
      intro i hi w' τ1 τ2 N1 N2 hw f1 f2 pk hJ a1 a2 b1 b2 c1 c2 g5 g6
      have bi := h.1 i (by omega)
      have bj := h.1 (i + 1) (by omega)
      have km := kys_mo (T := T) (ch := ch) (i := i + 1) (j := k) (by omega)
      have ek : kys T ch (i + 1) = kys T ch i + (if T 4 (ch (i + 1)) = 22 then 2 else 1) := rfl
      have k12 : 1 ≤ (if T 4 (ch (i + 1)) = 22 then 2 else 1) ∧ (if T 4 (ch (i + 1)) = 22 then 2 else 1) ≤ 2 := by split <;> omega
      obtain ⟨c6, c9, c4, c7, c8⟩ := h.2.2 i (by omega)
      obtain ⟨e1, e2⟩ := EI_e hJ
      -- behind an operation
      have five : ∀ (r1 r2 : MS) (g1 : Nat → Prop) (l1 : List Nat) (B1 h1 X1 : Nat) (g2 : Nat → Prop) (l2 : List Nat) (B2 h2 X2 : Nat), FE σ1 r1 → FE σ2 r2 → PKp t σ1 r1 → EIx (t + 1 + i) w' XC r1 r2 g1 l1 B1 h1 X1 g2 l2 B2 h2 X2 → ∀ (s1 s2 : Int32 × MS) (O1 O2 : Nat → Int32), O1 100 = s1.1 → O2 100 = s2.1 → O1 1 = nI (ch k) → O2 1 = nI (ch k) → O1 3 = fl → O2 3 = fl → O1 4 = nI (ch (i + 1)) → O2 4 = nI (ch (i + 1)) → O1 5 = nI (u + kys T ch i) → O2 5 = nI (u + kys T ch i) → (SO (t + 1 + i) w' XC g1 r1 s1 ∧ SO (t + 1 + i) w' XC g2 r2 s2 ∧ KS 8600 s1 s2 ∧ s1.2.1 95 = r1.1 95 ∧ s2.2.1 95 = r2.1 95) → T2 (fun n => x_readParts n 5 O1 s1.2) (fun n => x_readParts n 5 O2 s2.2) (fun r1 r2 => RPq t (if fl = 0 then k - 1 else k) w XC σ1 σ2 r1 r2 ∧ (r1.2.1 56 = 0 → PKp t σ1 r1.2)) := by
        intro r1 r2 g1 l1 B1 h1 X1 g2 l2 B2 h2 X2 p1 p2 pk2 hX' s1 s2 O1 O2 o100 p100 o1 o1' o3 o3' o4 o4' o5 o5' hs
        obtain ⟨s1', s2', s3, s4, s5⟩ := hs
        obtain ⟨m1, m2, bR, j1, j2, _, _, _, _, _, _, _, ⟨ty1, ty2⟩, a, z1, z2⟩ := hX'
        refine T2_suc (fun n => by rw [x_readParts]) (fun n => by rw [x_readParts]) ?_
        rw [o100, p100, o4, o4', o5, o5']
        refine E_an1 m1 m2 bR j1 j2 (by omega) ty1 ty2 ⟨a, s4.trans z1, z2⟩ (s4.trans ((bR.2.2.1 95 (by unfold AlS; omega)).trans s5.symm)) s1' s2' s3 (fun v1 v2 k1 k2 pk3 hv => ?_)
        have y1 := FE_tr p1 k1
        have y2 := FE_tr p2 k2
        refine T2_chk (n_in (by omega) (by omega)) (n_in (by omega) (by omega)) ?_
        rw [n_cl (p := ch (i + 1)) (by omega), (tb _ _ y1 y2 4 _ (by omega) (by omega) (by omega)).1, (tb _ _ y1 y2 4 _ (by omega) (by omega) (by omega)).2]
        refine T2_ob (T2_t (s_keysP h (by omega) rfl) (s_keysP h (by omega) rfl)) (fun y z hy => ?_)
        rw [hy.1, hy.2]
        show T2 (fun n => x_readParts n 1 (upd O1 5 (nI (u + kys T ch i) + nI (if T 4 (ch (i + 1)) = 22 then 2 else 1))) v1.2) (fun n => x_readParts n 1 (upd O2 5 (nI (u + kys T ch i) + nI (if T 4 (ch (i + 1)) = 22 then 2 else 1))) v2.2) _
        rw [n_add (p := u + kys T ch i) (by omega), show u + kys T ch i + (if T 4 (ch (i + 1)) = 22 then 2 else 1) = u + kys T ch (i + 1) by omega]
        rcases hv with ⟨w2, hw2, hv⟩ | ⟨y3, y4⟩
        · exact ih (i + 1) (by omega) w2 v1.2 v2.2 _ _ (by omega) y1 y2 (PK_tr pk2 (PK_mo (by omega) pk3)) hv o1 o1' o3 o3' o4 o4' rfl rfl
        · refine T2_mono (T2_t (rp_z h (i := i + 1) (by omega) (EZ_e y3) o4) (rp_z h (i := i + 1) (by omega) (EZ_e y4) o4')) (fun r1 r2 hr => ?_)
          rw [hr.1, hr.2]
          exact ⟨⟨y1, y2, Or.inr ⟨EZ_mo y3 (by omega) (by omega), EZ_mo y4 (by omega) (by omega)⟩⟩, fun z => absurd z (EZ_e y3)⟩
      have two : T2 (fun n => x_readParts n 2 N1 τ1) (fun n => x_readParts n 2 N2 τ2) (fun r1 r2 => RPq t (if fl = 0 then k - 1 else k) w XC σ1 σ2 r1 r2 ∧ (r1.2.1 56 = 0 → PKp t σ1 r1.2)) := by
        refine T2_suc (fun n => by rw [x_readParts]) (fun n => by rw [x_readParts]) ?_
        rw [e1, e2, c1, c2]
        refine T2_ite Iff.rfl (fun _ _ => ?_) (fun z _ => absurd rfl z)
        refine T2_chk (n_in (by omega) (by omega)) (n_in (by omega) (by omega)) ?_
        rw [n_cl (p := ch i) (by omega), (tb τ1 τ2 f1 f2 9 _ (by omega) (by omega) (by omega)).1, (tb τ1 τ2 f1 f2 9 _ (by omega) (by omega) (by omega)).2, c9]
        refine T2_ob (E_swP (by omega) (by omega) hJ) (fun r1 r2 hr => ?_)
        obtain ⟨hr, pk4⟩ := hr
        obtain ⟨k1, k2, g1, l1, B1, h1, X1, g2, l2, B2, h2, X2, hX', rm1, rm2⟩ := hr
        have ff1 := FE_tr f1 k1
        have ff2 := FE_tr f2 k2
        have fv := five r1.2 r2.2 g1 l1 B1 h1 X1 g2 l2 B2 h2 X2 ff1 ff2 (PK_tr pk (PK_mo (by omega) pk4)) hX'
        have hX0 := hX'
        obtain ⟨m1, m2, aR, _, _, t1, o1, o2, _⟩ := hX'
        have t2 : r2.2.1 59 = nI (t + 1 + i) := (aR.2.2.1 59 (by unfold AlS; omega)).symm.trans t1
        have tt : nI (t + 1 + i) - 1 = nI (t + i) := (n_sub (p := t + 1 + i) (q := 1) (by omega) (by omega)).trans (by rw [show t + 1 + i - 1 = t + i by omega])
        rw [t1, t2, tt, g5, g6]
        refine T2_chk (n_in (by omega) (by omega)) (n_in (by omega) (by omega)) ?_
        refine T2_chk (n_in (by omega) (by omega)) (n_in (by omega) (by omega)) ?_
        rw [n_cl (p := ch (i + 1)) (by omega), n_cl (p := t + i) (by omega), (tb _ _ ff1 ff2 4 _ (by omega) (by omega) (by omega)).1, (tb _ _ ff1 ff2 4 _ (by omega) (by omega) (by omega)).2]
        have P1 : VP g1 l1 B1 h1 (t + 1 + i) r1.2 := ⟨m1.1, t1, by omega, ⟨0, o1, by decide⟩⟩
        have P2 : VP g2 l2 B2 h2 (t + 1 + i) r2.2 := ⟨m2.1, t2, by omega, ⟨0, o2, by decide⟩⟩
        obtain ⟨va, vb, va1, va2, va3, va4, va5, va6, va7⟩ := aR.1 29 (t + i) (Or.inl ⟨rfl, by omega⟩) (by unfold VwR; omega)
        obtain ⟨vc, vd, vc1, vc2, vc3, vc4, vc5, vc6, vc7⟩ := aR.1 29 (u + kys T ch i) (Or.inl ⟨rfl, by omega⟩) (by unfold VwR; omega)
        rw [va1, va3]
        refine T2_ite Iff.rfl (fun _ _ => ?_) (fun n21 _ => ?_)
        · refine T2_chk (n_in (by omega) (by omega)) (n_in (by omega) (by omega)) ?_
          rw [n_cl (p := u + kys T ch i) (by omega), vc1, vc3]
          exact T2_ob (E_op hX0 (s_partAt P1 va2 vc2 rfl rfl) (s_partAt P2 va4 vc4 rfl rfl) (fun n => k_partAt m1.1 m2.1 o1 o2 (by omega) (by omega) va2 va4 va5 vc2 vc4 vc5 rfl rfl rfl rfl) (fun k => wl_partAt k _ _ _) (fun k => wl_partAt k _ _ _) (c := 8600) (by omega)) (fun s1 s2 hs => fv s1 s2 _ _ rfl rfl a1 a2 b1 b2 rfl rfl g5 g6 hs)
        have three : ∀ (O1 O2 : Nat → Int32), O1 1 = nI (ch k) → O2 1 = nI (ch k) → O1 3 = fl → O2 3 = fl → O1 4 = nI (ch (i + 1)) → O2 4 = nI (ch (i + 1)) → O1 5 = nI (u + kys T ch i) → O2 5 = nI (u + kys T ch i) → O1 6 = nI va → O2 6 = nI vb → T2 (fun n => x_readParts n 3 O1 r1.2) (fun n => x_readParts n 3 O2 r2.2) (fun r1 r2 => RPq t (if fl = 0 then k - 1 else k) w XC σ1 σ2 r1 r2 ∧ (r1.2.1 56 = 0 → PKp t σ1 r1.2)) := by
          intro O1 O2 o11 o12 o31 o32 o41 o42 o51 o52 o61 o62
          refine T2_suc (fun n => by rw [x_readParts]) (fun n => by rw [x_readParts]) ?_
          rw [o41, o42, o51, o52, o61, o62]
          refine T2_chk (n_in (by omega) (by omega)) (n_in (by omega) (by omega)) ?_
          rw [n_cl (p := ch (i + 1)) (by omega), (tb _ _ ff1 ff2 4 _ (by omega) (by omega) (by omega)).1, (tb _ _ ff1 ff2 4 _ (by omega) (by omega) (by omega)).2]
          refine T2_ite Iff.rfl (fun _ _ => ?_) (fun n23 _ => ?_)
          · refine T2_chk (n_in (by omega) (by omega)) (n_in (by omega) (by omega)) ?_
            rw [n_cl (p := u + kys T ch i) (by omega), vc1, vc3]
            exact T2_ob (E_op hX0 (s_image P1 va2 vc2 rfl rfl) (s_image P2 va4 vc4 rfl rfl) (fun n => k_image m1.1 m2.1 o1 o2 t1 t2 (by omega) (by omega) (by omega) va2 va4 va5 vc2 vc4 vc5 rfl rfl rfl rfl) (fun k => wl_image k _ _ _) (fun k => wl_image k _ _ _) (c := 8600) (by omega)) (fun s1 s2 hs => fv s1 s2 _ _ rfl rfl o11 o12 o31 o32 o41 o42 o51 o52 hs)
          · have y22 : T 4 (ch (i + 1)) = 22 := by
              rcases c4 with z | z | z
              · exact absurd z n21
              · exact z
              · exact absurd z n23
            rw [if_pos y22] at ek
            refine T2_suc (fun n => by rw [x_readParts]) (fun n => by rw [x_readParts]) ?_
            rw [o51, o52, o61, o62, n_add1]
            refine T2_chk (n_in (by omega) (by omega)) (n_in (by omega) (by omega)) ?_
            refine T2_chk (n_in (by omega) (by omega)) (n_in (by omega) (by omega)) ?_
            obtain ⟨ve, vf, ve1, ve2, ve3, ve4, ve5, ve6, ve7⟩ := aR.1 29 (u + kys T ch i + 1) (Or.inl ⟨rfl, by omega⟩) (by unfold VwR; omega)
            rw [n_cl (p := u + kys T ch i) (by omega), n_cl (p := u + kys T ch i + 1) (by omega), vc1, vc3, ve1, ve3]
            refine T2_ob (E_op hX0 (s_slice P1 va2 vc2 ve2 rfl rfl rfl) (s_slice P2 va4 vc4 ve4 rfl rfl rfl) (fun n => k_slice m1.1 m2.1 o1 o2 t1 t2 (by omega) (by omega) (by omega) va2 va4 va5 vc2 vc4 vc5 ve2 ve4 ve5 rfl rfl rfl rfl rfl rfl (fun i hi => ?_)) (fun k => wl_slice k _ _ _) (fun k => wl_slice k _ _ _) (c := 8600) (by omega)) (fun s1 s2 hs => fv s1 s2 _ _ rfl rfl o11 o12 o31 o32 o41 o42 o51 o52 hs)
            rw [upd_other (by omega), upd_other (by omega), upd_other (by omega), upd_other (by omega), upd_other (by omega), upd_other (by omega)]
        exact three _ _ a1 a2 b1 b2 rfl rfl g5 g6 rfl rfl
      have ne : ¬ nI (ch i) = nI (ch k) := fun z => absurd ((Tgt_eq h (by omega)).mp z) (by split at hi <;> omega)
      refine T2_suc (fun n => by rw [x_readParts]) (fun n => by rw [x_readParts]) ?_
      rw [a1, a2, b1, b2, c1, c2]
      refine T2_ite Iff.rfl (fun z _ => absurd z ne) (fun _ _ => ?_)
      refine T2_ite Iff.rfl (fun y _ => ?_) (fun _ _ => two)
      refine T2_chk (n_in (by omega) (by omega)) (n_in (by omega) (by omega)) ?_
      rw [n_cl (p := ch i) (by omega), (tb τ1 τ2 f1 f2 9 _ (by omega) (by omega) (by omega)).1, (tb τ1 τ2 f1 f2 9 _ (by omega) (by omega) (by omega)).2, c9]
      refine T2_ite Iff.rfl (fun z _ => absurd ((Tgt_eq h (by omega)).mp z) ?_) (fun _ _ => two)
      rw [if_pos y] at hi
      omega
  refine T2_suc (fun n => by rw [x_readParts]) (fun n => by rw [x_readParts]) ?_
  refine T2_ob (T2_t (s_nameOf h (fun i hi => hS.1.1 4 i (by omega) (by omega) (by omega)) (fun i hi => hS.1.1 6 i (by omega) (by omega) (by omega)) d1) (s_nameOf h (fun i hi => hS2.1.1 4 i (by omega) (by omega) (by omega)) (fun i hi => hS2.1.1 6 i (by omega) (by omega) (by omega)) d2)) (fun r1 r2 hr => ?_)
  rw [hr.1, hr.2]
  have hI0 := hI
  obtain ⟨g1, l1, B1, h1, X1, g2, l2, B2, h2, X2, hX'⟩ := hI0
  obtain ⟨c4, s, c6, cs, c5⟩ := h.2.1
  obtain ⟨a, i, hR, ha, _, _, hT⟩ := E_val hS.1 hX' hS.2 (h.1 0 (by omega)) c6 cs c5 (L1 := upd (fun _ => 0) 1 (nI (ch 0))) (L2 := upd (fun _ => 0) 1 (nI (ch 0))) rfl rfl
  refine T2_ob hT (fun s1 s2 hs => ?_)
  rw [hs.1, hs.2]
  have t1 := (EI_59 hI).1
  refine T2_ob (T2_and (E_prt hI (by omega) hR (by unfold VwR; omega) rfl rfl) (T2_t (s_push t1 (by omega) _) (s_push (EI_59 hI).2 (by omega) _))) (fun v1 v2 hv => ?_)
  obtain ⟨⟨f1, f2, hv⟩, hs1, _⟩ := hv
  have pk0 : PKp t σ1 v1.2 := by rw [hs1]; exact PK_pu (Nat.le_refl _)
  rw [u1, u2]
  exact lp _ 0 rfl w v1.2 v2.2 _ _ (Nat.le_refl _) f1 f2 pk0 hv d1 d2 q1 q2 rfl rfl rfl rfl
theorem E_readParts (hX : XC ≤ 402000) (h : Tgt T FN lc k ch) (ht : t + k ≤ 120000 ∧ t ≤ 90000) (hu : u + kys T ch k ≤ t) (hS : Sc0 T FN lc σ1) (hI : EI t w XC σ1 σ2) {fl : Int32} {L1 L2 : Nat → Int32} (d1 : L1 1 = nI (ch k)) (d2 : L2 1 = nI (ch k)) (u1 : L1 2 = nI u) (u2 : L2 2 = nI u) (q1 : L1 3 = fl) (q2 : L2 3 = fl) : T2 (fun n => x_readParts n 0 L1 σ1) (fun n => x_readParts n 0 L2 σ2) (RPq t (if fl = 0 then k - 1 else k) w XC σ1 σ2) := T2_mono (E_readPartsP hX h ht hu hS hI d1 d2 u1 u2 q1 q2) (fun r1 r2 hr => hr.1)
end RDP
