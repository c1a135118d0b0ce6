/-! Evaluation on both sides (reference): what goes on behind a value. -/
section EGO
variable {T : Nat → Nat → Int32} {FN : Nat → Nat → Prop} {O r K d t w XC : Nat} {lc : Nat → Prop} {σ1 σ2 : MS}
theorem WN_r {f : Nat} {x : Int32} (h : WN T FN f 0 O r K lc x) : 4 ≤ r := by
  cases f with
  | zero => exact h.elim
  | succ f =>
    unfold WN at h
    rcases h with ⟨_, z, _⟩ | ⟨z, _⟩ | ⟨z, _⟩ | ⟨z, _⟩ | ⟨z, _⟩ | ⟨z, _⟩ | ⟨z, _⟩
    · exact z
    all_goals exact absurd z (by decide)
/-- an operation on values -/
theorem E_op {c : Nat} {g1 g2 : Nat → Prop} {l1 l2 : List Nat} {B1 h1 X1 B2 h2 X2 KK : Nat} {Y1 Y2 : Nat → Option (Int32 × MS)} (hX : EIx t w XC σ1 σ2 g1 l1 B1 h1 X1 g2 l2 B2 h2 X2) (v1 : Tm Y1 (VO g1 B1 h1 t σ1)) (v2 : Tm Y2 (VO g2 B2 h2 t σ2)) (kq : ∀ n, Pm n Y1 Y2 (KQ h1 h2 KK)) (k1 : ∀ k, Wk (Y1 k) σ1.2.1) (k2 : ∀ k, Wk (Y2 k) σ2.2.1) (hc : h1 + KK + c ≤ B1 + 870000 ∧ h2 + KK + c ≤ B2 + 870000) : T2 Y1 Y2 (fun r1 r2 => SO t w XC g1 σ1 r1 ∧ SO t w XC g2 σ2 r2 ∧ KS c r1 r2 ∧ r1.2.1 95 = σ1.1 95 ∧ r2.2.1 95 = σ2.1 95) := by
  obtain ⟨m1, m2, hR, i1, i2, t1, e1, e2, w1, hw, x1, x2, _⟩ := hX
  have w2 : σ2.1 57 = nI w := (hR.2.2.1 57 (by unfold AlS; omega)).symm.trans w1
  refine T2_mono (T2_of v1 v2 (fun n => Pm_wl k1 k2 (kq n))) (fun r1 r2 hr => ?_)
  obtain ⟨⟨hq, a1, a2⟩, b1, b2⟩ := hr
  have c1 := b1
  have c2 := b2
  obtain ⟨_, _, _, _, f1, _⟩ := c1
  obtain ⟨_, _, _, _, f2, _⟩ := c2
  refine ⟨SO_of (W := 0) (by omega) m1 w1 hw.1 x1 (VQ_of b1), SO_of (W := 0) (by omega) m2 w2 hw.1 x2 (VQ_of b2), ⟨KR_of (VO_54 b1) (VO_54 b2) hc hq ?_, ?_⟩, f1.1 95 (by decide), f2.1 95 (by decide)⟩
  · rw [f1.1 57 (by decide), f2.1 57 (by decide), w1, w2]
  · rw [a1, a2]; exact hR.2.2.2
/-- a truth is made, counted and pushed -/
theorem E_tru {Q : Int32 × MS → Int32 × MS → Prop} {F1 F2 : Nat → Int32 × MS → Option (Int32 × MS)} (ht : t ≤ 176000) (hE : EI t w XC σ1 σ2) {L1 L2 : Nat → Int32} (hL : L1 1 = L2 1) (hQ : ∀ v1 v2 : Int32 × MS, FE σ1 v1.2 → FE σ2 v2.2 → ((∃ w', w ≤ w' ∧ EI (t + 1) w' XC v1.2 v2.2) ∨ (EZ t (t + 2001) v1.2 ∧ EZ t (t + 2001) v2.2)) → T2 (fun k => F1 k v1) (fun k => F2 k v2) Q) : T2 (fun k => ob (x_truth k 0 L1 σ1) (fun r => ob (x_answer k 0 (upd (fun _ => 0) 1 r.1) r.2) (fun u => ob (x_push k 0 (upd (fun _ => 0) 1 u.1) u.2) (F1 k)))) (fun k => ob (x_truth k 0 L2 σ2) (fun r => ob (x_answer k 0 (upd (fun _ => 0) 1 r.1) r.2) (fun u => ob (x_push k 0 (upd (fun _ => 0) 1 u.1) u.2) (F2 k)))) Q := by
  obtain ⟨g1, l1, B1, h1, X1, g2, l2, B2, h2, X2, hX⟩ := hE
  have hX0 := hX
  obtain ⟨m1, m2, hR, i1, i2, t1, e1, e2, w1, hw, x1, x2, ⟨ty1, ty2⟩, a, a1, a2⟩ := hX
  have t2 : σ2.1 59 = nI t := (hR.2.2.1 59 (by unfold AlS; omega)).symm.trans t1
  have a95 := hR.2.2.1 95 (by unfold AlS; omega)
  refine T2_ob (E_op (KK := 0) hX0 (Tm_mono (s_truth L1) (fun r hr => VO_tru ⟨m1.1, t1, by omega, ⟨0, e1, by decide⟩⟩ hr)) (Tm_mono (s_truth L2) (fun r hr => VO_tru ⟨m2.1, t2, by omega, ⟨0, e2, by decide⟩⟩ hr)) (fun n => Pm_mono (k_truth m1.1 m2.1 ⟨fun _ => e2, fun _ => e1⟩ hL) (fun r1 r2 hr => hr.1)) (fun k => wl_truth k _ _ _) (fun k => wl_truth k _ _ _) (c := XC - 400000 + 10) (by omega)) (fun r1 r2 hr => ?_)
  obtain ⟨s1, s2, ks, b1, b2⟩ := hr
  exact E_ans m1 m2 hR i1 i2 ⟨ht, Nat.le_refl _⟩ ty1 ty2 ⟨a, b1.trans a1, a2⟩ (b1.trans (a95.trans b2.symm)) s1 s2 ks hQ
/-- with an error a truth is pushed all the same -/
theorem s_truZ {a b : Nat} {σ : MS} {F : Nat → Int32 × MS → Option (Int32 × MS)} {P : Int32 × MS → Prop} (hb : b < 185000) (hZ : EZ a b σ) {L : Nat → Int32} (hQ : ∀ v : Int32 × MS, FE σ v.2 → EZ a (b + 1) v.2 → Tm (fun k => F k v) P) : Tm (fun k => ob (x_truth k 0 L σ) (fun r => ob (x_answer k 0 (upd (fun _ => 0) 1 r.1) r.2) (fun u => ob (x_push k 0 (upd (fun _ => 0) 1 u.1) u.2) (F k)))) P := by
  obtain ⟨g, l, B, h, t, m, c1, c2, c3, c4, c5, c6, c7⟩ := hZ
  refine Tm_ob (s_truth L) (fun r hr => ?_)
  rw [hr.1]
  have hr2 : ∃ c, r.1 = nI c ∧ c < 3 := by
    rcases hr.2 with z | z
    · exact ⟨1, z, by decide⟩
    · exact ⟨2, z, by decide⟩
  obtain ⟨c, cc1, cc2⟩ := hr2
  have an : Tm (fun k => x_answer k 0 (upd (fun _ => 0) 1 r.1) σ) (fun s => s = (r.1, σ)) := by
    refine Tm_suc (fun k => by rw [x_answer]) ?_
    refine Tm_ite (fun z => absurd z c4) (fun _ => ?_)
    refine Tm_suc (fun k => by rw [x_answer]) ?_
    exact Tm_some rfl
  refine Tm_ob an (fun s hs => ?_)
  rw [hs]
  refine Tm_ob (s_push c1 (by omega) _) (fun u hu => ?_)
  rw [hu]
  refine hQ _ FE_pu ?_
  show EZ a (b + 1) (mPu σ t r.1)
  exact EZ_pu m c1 c2 (by omega) c4 c5 c6 c7 ⟨c, cc1, Or.inl cc2⟩
theorem EZ2_tru {a b : Nat} {Q : Int32 × MS → Int32 × MS → Prop} {F1 F2 : Nat → Int32 × MS → Option (Int32 × MS)} (hb : b < 185000) (z1 : EZ a b σ1) (z2 : EZ a b σ2) {L1 L2 : Nat → Int32} (hF1 : F1 = fun _ v => some (0, v.2)) (hF2 : F2 = fun _ v => some (0, v.2)) (hQ : ∀ v1 v2 : MS, FE σ1 v1 → FE σ2 v2 → EZ a (b + 1) v1 → EZ a (b + 1) v2 → Q (0, v1) (0, v2)) : T2 (fun k => ob (x_truth k 0 L1 σ1) (fun r => ob (x_answer k 0 (upd (fun _ => 0) 1 r.1) r.2) (fun u => ob (x_push k 0 (upd (fun _ => 0) 1 u.1) u.2) (F1 k)))) (fun k => ob (x_truth k 0 L2 σ2) (fun r => ob (x_answer k 0 (upd (fun _ => 0) 1 r.1) r.2) (fun u => ob (x_push k 0 (upd (fun _ => 0) 1 u.1) u.2) (F2 k)))) Q := by
  subst hF1
  subst hF2
  refine T2_mono (T2_t (P1 := fun r => r.1 = 0 ∧ FE σ1 r.2 ∧ EZ a (b + 1) r.2) (P2 := fun r => r.1 = 0 ∧ FE σ2 r.2 ∧ EZ a (b + 1) r.2) (s_truZ hb z1 (fun v f z => Tm_some ⟨rfl, f, z⟩)) (s_truZ hb z2 (fun v f z => Tm_some ⟨rfl, f, z⟩))) (fun r1 r2 hr => ?_)
  obtain ⟨⟨a1, a2, a3⟩, b1, b2, b3⟩ := hr
  have e1 : r1 = (0, r1.2) := by rw [← a1]
  have e2 : r2 = (0, r2.2) := by rw [← b1]
  rw [e1, e2]
  exact hQ _ _ a2 b2 a3 b3
theorem PEg_of (hPE : ∀ e, e < d → PE T FN e) : PEg T FN d := by
  intro f O r K lc x t w XC σ1 σ2 L1 L2 hW hP hI d1 d2
  cases f with
  | zero => exact hW.elim
  | succ f =>
  unfold WN at hW
  rcases hW with ⟨z, _⟩ | ⟨_, n, xn, n70, hc⟩ | ⟨z, _⟩ | ⟨z, _⟩ | ⟨z, _⟩ | ⟨z, _⟩ | ⟨z, _⟩
  case inl => exact absurd z (by decide)
  case inr.inr.inl => exact absurd z (by decide)
  case inr.inr.inr.inl => exact absurd z (by decide)
  case inr.inr.inr.inr.inl => exact absurd z (by decide)
  case inr.inr.inr.inr.inr.inl => exact absurd z (by decide)
  case inr.inr.inr.inr.inr.inr => exact absurd z (by decide)
  obtain ⟨e, rfl⟩ : ∃ e, d = e + 1 := by
    obtain ⟨_, _, _, _, _, a6, _, _, _, _, _, _, _, c4⟩ := hP
    exact ⟨d - 1, by omega⟩
  have hXC := hP.2.1
  have hd13 := hP.2.2.2.2.1
  have ht := PC_t hP
  have hS1 := hP.1
  have hS2 := EI_ST hI hS1
  have tb : ∀ (τ1 τ2 : MS), FE σ1 τ1 → FE σ2 τ2 → ∀ a i, 4 ≤ a → a ≤ 9 → (1 ≤ i ∧ i < LNo T % 70001) → τ1.2.2 a i = T a i ∧ τ2.2.2 a i = T a i := fun τ1 τ2 f1 f2 a i h1 h2 h3 => ⟨(STb_fe hS1 f1).1 a i h1 (by omega) ⟨fun _ => h3, fun z => by omega⟩, (STb_fe hS2 f2).1 a i h1 (by omega) ⟨fun _ => h3, fun z => by omega⟩⟩
  rw [xn] at d1 d2
  refine T2_suc (fun k => e_goesOn_0 k _ _ _) (fun k => e_goesOn_0 k _ _ _) ?_
  rw [d1, d2]
  refine T2_chk (n_in (by omega) (by omega)) (n_in (by omega) (by omega)) ?_
  rw [n_cl (p := n) (by omega), hS1.1 4 _ (by omega) (by omega) (by omega), hS2.1 4 _ (by omega) (by omega) (by omega)]
  refine T2_ite Iff.rfl (fun _ _ => T2_some ⟨FE_rf, FE_rf, Or.inl ⟨w, Nat.le_refl _, hI⟩⟩) (fun y26 _ => ?_)
  obtain ⟨hop, ⟨O3, r3, lo3, W3⟩, hx4⟩ := hc.resolve_left y26
  have m1 : upd L1 2 (T 4 n) 1 = nI n := d1
  have m2 : upd L2 2 (T 4 n) 1 = nI n := d2
  have y1 : upd L1 2 (T 4 n) 2 = T 4 n := rfl
  have y2 : upd L2 2 (T 4 n) 2 = T 4 n := rfl
  generalize upd L1 2 (T 4 n) = N1 at m1 y1
  generalize upd L2 2 (T 4 n) = N2 at m2 y2
  -- evaluate an operand
  have ev : ∀ (O' r' : Nat) (z : Int32) (t' w' : Nat) (τ1 τ2 : MS) (M1 M2 : Nat → Int32), ((O' = O ∧ r' + 2 ≤ r) ∨ (O' < O ∧ r' ≤ 14)) → WN T FN f 0 O' r' K lc z → FE σ1 τ1 → w ≤ w' → t' ≤ t + 2 → EI t' w' XC τ1 τ2 → M1 1 = z → M2 1 = z → T2 (fun k => x_GV k e 4 0 M1 τ1) (fun k => x_GV k e 4 0 M2 τ2) (EQ (178000 + e) t' w' XC τ1 τ2) := fun O' r' z t' w' τ1 τ2 M1 M2 lo hW f1 hw ht' hJ q1 q2 => hPE e (by omega) f O' r' K lc z t' w' XC τ1 τ2 M1 M2 hW (PC_lo (PC_fe hP f1 hw (EI_w hJ)) lo (WN_r hW) ht' (by omega) (by omega)) hJ q1 q2
  -- a truth is put
  have c7I : ∀ (w' : Nat) (M1 M2 : Nat → Int32) (τ1 τ2 : MS), w ≤ w' → M1 3 = M2 3 → FE σ1 τ1 → FE σ2 τ2 → EI t w' XC τ1 τ2 → T2 (fun k => x_GV k (e + 1) 7 7 M1 τ1) (fun k => x_GV k (e + 1) 7 7 M2 τ2) (EQ (178000 + (e + 1)) t w XC σ1 σ2) := by
    intro w' M1 M2 τ1 τ2 hw q3 f1 f2 hJ
    refine T2_suc (fun k => e_goesOn_7 k _ _ _) (fun k => e_goesOn_7 k _ _ _) ?_
    refine E_tru (by omega) hJ q3 (fun v1 v2 k1 k2 h => T2_some ⟨FE_tr f1 k1, FE_tr f2 k2, ?_⟩)
    rcases h with ⟨w2, hw2, h⟩ | ⟨h1, h2⟩
    · exact Or.inl ⟨w2, by omega, h⟩
    · exact Or.inr ⟨EZ_mo h1 (Nat.le_refl _) (by omega), EZ_mo h2 (Nat.le_refl _) (by omega)⟩
  have c7Z : ∀ (M1 M2 : Nat → Int32) (τ1 τ2 : MS), FE σ1 τ1 → FE σ2 τ2 → EZ t (178000 + e) τ1 → EZ t (178000 + e) τ2 → T2 (fun k => x_GV k (e + 1) 7 7 M1 τ1) (fun k => x_GV k (e + 1) 7 7 M2 τ2) (EQ (178000 + (e + 1)) t w XC σ1 σ2) := by
    intro M1 M2 τ1 τ2 f1 f2 z1 z2
    refine T2_suc (fun k => e_goesOn_7 k _ _ _) (fun k => e_goesOn_7 k _ _ _) ?_
    exact EZ2_tru (by omega) z1 z2 rfl rfl (fun v1 v2 k1 k2 h1 h2 => ⟨FE_tr f1 k1, FE_tr f2 k2, Or.inr ⟨h1, h2⟩⟩)
  have c7 : ∀ (w' : Nat) (M1 M2 : Nat → Int32) (τ1 τ2 : MS), w ≤ w' → M1 3 = M2 3 → FE σ1 τ1 → FE σ2 τ2 → (EI t w' XC τ1 τ2 ∨ (EZ t (178000 + e) τ1 ∧ EZ t (178000 + e) τ2)) → T2 (fun k => x_GV k (e + 1) 7 7 M1 τ1) (fun k => x_GV k (e + 1) 7 7 M2 τ2) (EQ (178000 + (e + 1)) t w XC σ1 σ2) := fun w' M1 M2 τ1 τ2 hw q3 f1 f2 h => by
    rcases h with h | h
    · exact c7I w' M1 M2 τ1 τ2 hw q3 f1 f2 h
    · exact c7Z M1 M2 τ1 τ2 f1 f2 h.1 h.2
  have c6 : ∀ (w' : Nat) (M1 M2 : Nat → Int32) (τ1 τ2 : MS), w ≤ w' → M1 100 = M2 100 → FE σ1 τ1 → FE σ2 τ2 → (EI t w' XC τ1 τ2 ∨ (EZ t (178000 + e) τ1 ∧ EZ t (178000 + e) τ2)) → T2 (fun k => x_GV k (e + 1) 7 6 M1 τ1) (fun k => x_GV k (e + 1) 7 6 M2 τ2) (EQ (178000 + (e + 1)) t w XC σ1 σ2) := fun w' M1 M2 τ1 τ2 hw q f1 f2 h => by
    refine T2_suc (fun k => e_goesOn_6 k _ _ _) (fun k => e_goesOn_6 k _ _ _) ?_
    exact c7 w' _ _ τ1 τ2 hw q f1 f2 h
  have c5 : ∀ (w' : Nat) (M1 M2 : Nat → Int32) (τ1 τ2 : MS), w ≤ w' → FE σ1 τ1 → FE σ2 τ2 → (EI t w' XC τ1 τ2 ∨ (EZ t (178000 + e) τ1 ∧ EZ t (178000 + e) τ2)) → T2 (fun k => x_GV k (e + 1) 7 5 M1 τ1) (fun k => x_GV k (e + 1) 7 5 M2 τ2) (EQ (178000 + (e + 1)) t w XC σ1 σ2) := fun w' M1 M2 τ1 τ2 hw f1 f2 h => by
    refine T2_suc (fun k => e_goesOn_5 k _ _ _) (fun k => e_goesOn_5 k _ _ _) ?_
    exact c6 w' _ _ τ1 τ2 hw rfl f1 f2 h
  have zmo : ∀ {τ1 τ2 : MS}, EZ t t τ1 → EZ t t τ2 → EZ t (178000 + e) τ1 ∧ EZ t (178000 + e) τ2 := fun a b => ⟨EZ_mo a (Nat.le_refl _) (by omega), EZ_mo b (Nat.le_refl _) (by omega)⟩
  have c4 : ∀ (M1 M2 : Nat → Int32) (τ1 τ2 : MS), M1 1 = nI n → M2 1 = nI n → M1 3 = M2 3 → M1 100 = M2 100 → M1 101 = M2 101 → FE σ1 τ1 → FE σ2 τ2 → EI t w XC τ1 τ2 → T2 (fun k => x_GV k (e + 1) 7 4 M1 τ1) (fun k => x_GV k (e + 1) 7 4 M2 τ2) (EQ (178000 + (e + 1)) t w XC σ1 σ2) := by
    intro M1 M2 τ1 τ2 j1 l1 j3 j100 j101 f1 f2 hJ
    refine T2_suc (fun k => e_goesOn_4 k _ _ _) (fun k => e_goesOn_4 k _ _ _) ?_
    rw [j100, j101, j1, l1]
    refine T2_ite Iff.rfl (fun _ _ => ?_) (fun _ _ => c7I w M1 M2 τ1 τ2 (Nat.le_refl _) j3 f1 f2 hJ)
    refine T2_chk (n_in (by omega) (by omega)) (n_in (by omega) (by omega)) ?_
    rw [n_cl (p := n) (by omega), (tb τ1 τ2 f1 f2 7 _ (by omega) (by omega) (by omega)).1, (tb τ1 τ2 f1 f2 7 _ (by omega) (by omega) (by omega)).2]
    refine T2_od ?_
    refine T2_ob (ev O3 r3 (T 7 n) t w τ1 τ2 _ _ lo3 W3 f1 (Nat.le_refl _) (by omega) hJ rfl rfl) (fun r1 r2 hr => ?_)
    obtain ⟨g1, g2, hr⟩ := hr
    have h1 := FE_tr f1 g1
    have h2 := FE_tr f2 g2
    rcases hr with ⟨w2, hw2, hJ2⟩ | ⟨z1, z2⟩
    · obtain ⟨e1, e2⟩ := EI_e hJ2
      rw [e1, e2]
      refine T2_ite Iff.rfl (fun _ _ => ?_) (fun z _ => absurd rfl z)
      refine T2_ob (E_isTrue hXC (by omega) hJ2 _ _) (fun s1 s2 hs => ?_)
      obtain ⟨a1, a2, a3, a4, a5⟩ := hs
      have a5 : EI t w2 XC s1.2 s2.2 ∨ (EZ t (178000 + e) s1.2 ∧ EZ t (178000 + e) s2.2) := a5.imp id (fun z => zmo z.1 z.2.1)
      rw [a1]
      exact T2_ite Iff.rfl (fun _ _ => c5 w2 _ _ s1.2 s2.2 hw2 (FE_tr h1 a3) (FE_tr h2 a4) a5) (fun _ _ => c6 w2 _ _ s1.2 s2.2 hw2 rfl (FE_tr h1 a3) (FE_tr h2 a4) a5)
    · refine T2_ite ⟨fun z => absurd z (EZ_e z1), fun z => absurd z (EZ_e z2)⟩ (fun z _ => absurd z (EZ_e z1)) (fun _ _ => ?_)
      exact c5 w _ _ r1.2 r2.2 (Nat.le_refl _) h1 h2 (Or.inr ⟨z1, z2⟩)
  have c2 : T2 (fun k => x_GV k (e + 1) 7 2 N1 σ1) (fun k => x_GV k (e + 1) 7 2 N2 σ2) (EQ (178000 + (e + 1)) t w XC σ1 σ2) := by
    refine T2_suc (fun k => e_goesOn_2 k _ _ _) (fun k => e_goesOn_2 k _ _ _) ?_
    rw [y1, y2]
    refine T2_ob (E_isTrue hXC (by omega) hI _ _) (fun s1 s2 hs => ?_)
    obtain ⟨a1, a2, a3, a4, a5⟩ := hs
    rw [a1]
    rcases a5 with hJ | ⟨z1, z2, _⟩
    · obtain ⟨e1, e2⟩ := EI_e hJ
      rw [e1, e2]
      refine T2_ite Iff.rfl (fun _ _ => ?_) (fun z _ => absurd rfl z)
      refine T2_ite Iff.rfl (fun _ _ => c4 _ _ s1.2 s2.2 m1 m2 rfl rfl rfl a3 a4 hJ) (fun _ _ => ?_)
      refine T2_suc (fun k => e_goesOn_3 k _ _ _) (fun k => e_goesOn_3 k _ _ _) ?_
      exact c4 _ _ s1.2 s2.2 m1 m2 rfl rfl rfl a3 a4 hJ
    · refine T2_ite ⟨fun z => absurd z (EZ_e z1), fun z => absurd z (EZ_e z2)⟩ (fun z _ => absurd z (EZ_e z1)) (fun _ _ => ?_)
      exact c7Z _ _ s1.2 s2.2 a3 a4 (zmo z1 z2).1 (zmo z1 z2).2
  -- an operation
  have c9 : ∀ (mm w' : Nat) (M1 M2 : Nat → Int32) (τ1 τ2 : MS), (T 4 n = 22 → mm = 3) → (¬ T 4 n = 22 → mm = 2) → M1 1 = nI n → M2 1 = nI n → M1 2 = T 4 n → M2 2 = T 4 n → FE σ1 τ1 → FE σ2 τ2 → ((w ≤ w' ∧ EI (t + mm) w' XC τ1 τ2) ∨ (EZ t (178000 + e) τ1 ∧ EZ t (178000 + e) τ2)) → T2 (fun k => x_GV k (e + 1) 7 9 M1 τ1) (fun k => x_GV k (e + 1) 7 9 M2 τ2) (EQ (178000 + (e + 1)) t w XC σ1 σ2) := by
    intro mm w' M1 M2 τ1 τ2 hm3 hm2 j1 l1 j2 l2 f1 f2 h
    have hmm : 2 ≤ mm ∧ mm ≤ 3 := by
      by_cases c : T 4 n = 22
      · have := hm3 c; omega
      · have := hm2 c; omega
    refine T2_suc (fun k => e_goesOn_9 k _ _ _) (fun k => e_goesOn_9 k _ _ _) ?_
    rcases h with ⟨hw', hJ⟩ | ⟨z1, z2⟩
    case inr =>
      refine T2_ite ⟨fun z => absurd z (EZ_le z1), fun z => absurd z (EZ_le z2)⟩ (fun z _ => absurd z (EZ_le z1)) (fun _ _ => ?_)
      exact T2_some ⟨f1, f2, Or.inr ⟨EZ_mo z1 (Nat.le_refl _) (by omega), EZ_mo z2 (Nat.le_refl _) (by omega)⟩⟩
    obtain ⟨e1, e2⟩ := EI_e hJ
    rw [e1, e2]
    refine T2_ite Iff.rfl (fun _ _ => ?_) (fun z _ => absurd (by decide) z)
    refine T2_suc (fun k => e_goesOn_10 k _ _ _) (fun k => e_goesOn_10 k _ _ _) ?_
    rw [j2, l2]
    refine T2_ob (E_sw hXC (by omega) hJ) (fun r1 r2 hr => ?_)
    obtain ⟨k1, k2, g1, l1', B1, h1, X1, g2, l2', B2, h2, X2, hX, rm1, rm2⟩ := hr
    have ff1 := FE_tr f1 k1
    have ff2 := FE_tr f2 k2
    obtain ⟨a1, a2, aR, i1, i2, t1, q1, q2, w1, hw, x1, x2, ty, a95⟩ := hX
    have t2 : r2.2.1 59 = nI (t + mm) := (aR.2.2.1 59 (by unfold AlS; omega)).symm.trans t1
    -- the state with the operands above the top
    have hX' : EIx t w' XC (mSc r1.2 59 (nI t)) (mSc r2.2 59 (nI t)) g1 l1' B1 h1 X1 g2 l2' B2 h2 X2 := ⟨MI_59 (MI_mo a1 (by omega)), MI_59 (MI_mo a2 (by omega)), RA_59 (RA_mo (by omega) aR), IT_c rfl rfl rfl rfl i1, IT_c rfl rfl rfl rfl i2, rfl, q1, q2, w1, hw, x1, x2, ty, a95⟩
    have v0 := aR.1 29 t (Or.inl ⟨rfl, by omega⟩) (by unfold VwR; omega)
    have v1 := aR.1 29 (t + 1) (Or.inl ⟨rfl, by omega⟩) (by unfold VwR; omega)
    have g59 : FE σ1 (mSc r1.2 59 (nI t)) := FE_tr ff1 (FE_sc (Or.inr (Or.inr (Or.inl rfl))))
    have p59 : FE σ2 (mSc r2.2 59 (nI t)) := FE_tr ff2 (FE_sc (Or.inr (Or.inr (Or.inl rfl))))
    have tbl := tb _ _ g59 p59
    have v2 : mm = 3 → VC g1 g2 (r1.2.2.2 28) (r2.2.2.2 28) (r1.2.2.2 29 (t + 2)) (r2.2.2.2 29 (t + 2)) := fun c => aR.1 29 (t + 2) (Or.inl ⟨rfl, by omega⟩) (by unfold VwR; omega)
    -- behind the operation
    have c18 : ∀ (s1 s2 : Int32 × MS) (O1 O2 : Nat → Int32), O1 5 = s1.1 → O2 5 = s2.1 → (SO t w' XC g1 (mSc r1.2 59 (nI t)) s1 ∧ SO t w' XC g2 (mSc r2.2 59 (nI t)) s2 ∧ KS 8600 s1 s2 ∧ s1.2.1 95 = (mSc r1.2 59 (nI t)).1 95 ∧ s2.2.1 95 = (mSc r2.2 59 (nI t)).1 95) → T2 (fun k => x_GV k (e + 1) 7 18 O1 s1.2) (fun k => x_GV k (e + 1) 7 18 O2 s2.2) (EQ (178000 + (e + 1)) t w XC σ1 σ2) := by
      intro s1 s2 O1 O2 o5 p5 hs
      obtain ⟨c1, c2, c3, c4, c5⟩ := hs
      obtain ⟨b1, b2, bR, j1, j2, _, _, _, _, _, _, _, ⟨ty1, ty2⟩, a, z1, z2⟩ := hX'
      refine T2_suc (fun k => e_goesOn_18 k _ _ _) (fun k => e_goesOn_18 k _ _ _) ?_
      rw [o5, p5]
      refine E_ans b1 b2 bR j1 j2 (by omega) ty1 ty2 ⟨a, c4.trans z1, z2⟩ (c4.trans ((bR.2.2.1 95 (by unfold AlS; omega)).trans c5.symm)) c1 c2 c3 (fun v1 v2 k1 k2 h => T2_some ⟨FE_tr g59 k1, FE_tr p59 k2, ?_⟩)
      rcases h with ⟨w2, hw2, h⟩ | ⟨h1, h2⟩
      · exact Or.inl ⟨w2, by omega, h⟩
      · exact Or.inr ⟨EZ_mo h1 (Nat.le_refl _) (by omega), EZ_mo h2 (Nat.le_refl _) (by omega)⟩
    generalize hr1 : mSc r1.2 59 (nI t) = ρ1 at hX' g59 tbl c18
    generalize hr2 : mSc r2.2 59 (nI t) = ρ2 at hX' p59 tbl c18
    have c28 : ρ1.2.2 = r1.2.2.2 := by rw [← hr1]; rfl
    have d28 : ρ2.2.2 = r2.2.2.2 := by rw [← hr2]; rfl
    rw [← c28, ← d28] at v0 v1 v2
    have hX0 := hX'
    obtain ⟨b1, b2, bR, _, _, u1, o1, o2, _, _, _, _, _, _⟩ := hX'
    have u2 : ρ2.1 59 = nI t := (bR.2.2.1 59 (by unfold AlS; omega)).symm.trans u1
    have P1 : VP g1 l1' B1 h1 t ρ1 := ⟨b1.1, u1, by omega, ⟨0, o1, by decide⟩⟩
    have P2 : VP g2 l2' B2 h2 t ρ2 := ⟨b2.1, u2, by omega, ⟨0, o2, by decide⟩⟩
    have v0' := v0
    have v1' := v1
    obtain ⟨va, vb, va1, va2, va3, va4, va5, va6, va7⟩ := v0'
    obtain ⟨vc, vd, vc1, vc2, vc3, vc4, vc5, vc6, vc7⟩ := v1'
    have c13 : ∀ O1 O2 : Nat → Int32, O1 1 = nI n → O2 1 = nI n → O1 2 = T 4 n → O2 2 = T 4 n → T2 (fun k => x_GV k (e + 1) 7 13 O1 ρ1) (fun k => x_GV k (e + 1) 7 13 O2 ρ2) (EQ (178000 + (e + 1)) t w XC σ1 σ2) := by
      intro O1 O2 q1 q2 q3 q4
      refine T2_suc (fun k => e_goesOn_13 k _ _ _) (fun k => e_goesOn_13 k _ _ _) ?_
      rw [u1, u2, q3, q4, n_add1]
      refine T2_chk (n_in (by omega) (by omega)) (n_in (by omega) (by omega)) ?_
      refine T2_chk (n_in (by omega) (by omega)) (n_in (by omega) (by omega)) ?_
      rw [n_cl (p := t) (by omega), n_cl (p := t + 1) (by omega), va1, va3, vc1, vc3]
      refine T2_ite Iff.rfl (fun _ _ => ?_) (fun _ _ => ?_)
      · refine T2_suc (fun k => e_goesOn_15 k _ _ _) (fun k => e_goesOn_15 k _ _ _) ?_
        exact T2_ob (E_op hX0 (s_partAt P1 va2 vc2 rfl rfl) (s_partAt P2 va4 vc4 rfl rfl) (fun n => k_partAt b1.1 b2.1 o1 o2 (by omega) (by omega) va2 va4 va5 vc2 vc4 vc5 rfl rfl rfl rfl) (fun k => wl_partAt k _ _ _) (fun k => wl_partAt k _ _ _) (c := 8600) (by omega)) (fun s1 s2 hs => c18 s1 s2 _ _ rfl rfl hs)
      refine T2_ite Iff.rfl (fun y22 _ => ?_) (fun _ _ => ?_)
      · refine T2_suc (fun k => e_goesOn_14 k _ _ _) (fun k => e_goesOn_14 k _ _ _) ?_
        rw [u1, u2, show nI t + 2 = nI (t + 2) from n_add (q := 2) (by omega)]
        refine T2_chk (n_in (by omega) (by omega)) (n_in (by omega) (by omega)) ?_
        obtain ⟨ve, vf, ve1, ve2, ve3, ve4, ve5, ve6, ve7⟩ := v2 (hm3 y22)
        rw [n_cl (p := t + 2) (by omega), ve1, ve3]
        refine T2_ob (E_op hX0 (s_slice P1 va2 vc2 ve2 rfl rfl rfl) (s_slice P2 va4 vc4 ve4 rfl rfl rfl) (fun n => k_slice b1.1 b2.1 o1 o2 u1 u2 (by omega) (by omega) (by omega) va2 va4 va5 vc2 vc4 vc5 ve2 ve4 ve5 rfl rfl rfl rfl rfl rfl (fun i hi => ?_)) (fun k => wl_slice k _ _ _) (fun k => wl_slice k _ _ _) (c := 8600) (by omega)) (fun s1 s2 hs => c18 s1 s2 _ _ rfl rfl hs)
        rw [upd_other (by omega), upd_other (by omega), upd_other (by omega), upd_other (by omega), upd_other (by omega), upd_other (by omega)]
      refine T2_ite Iff.rfl (fun _ _ => ?_) (fun _ _ => ?_)
      · refine T2_suc (fun k => e_goesOn_16 k _ _ _) (fun k => e_goesOn_16 k _ _ _) ?_
        exact T2_ob (E_op hX0 (s_image P1 va2 vc2 rfl rfl) (s_image P2 va4 vc4 rfl rfl) (fun n => k_image b1.1 b2.1 o1 o2 u1 u2 (by omega) (by omega) (by omega) va2 va4 va5 vc2 vc4 vc5 rfl rfl rfl rfl) (fun k => wl_image k _ _ _) (fun k => wl_image k _ _ _) (c := 8600) (by omega)) (fun s1 s2 hs => c18 s1 s2 _ _ rfl rfl hs)
      · refine T2_suc (fun k => e_goesOn_17 k _ _ _) (fun k => e_goesOn_17 k _ _ _) ?_
        have z1 : (upd (upd (upd O1 3 (nI va)) 4 (nI vc)) 5 0) 1 = nI n := q1
        have z2 : (upd (upd (upd O2 3 (nI vb)) 4 (nI vd)) 5 0) 1 = nI n := q2
        rw [z1, z2]
        refine T2_chk (n_in (by omega) (by omega)) (n_in (by omega) (by omega)) ?_
        rw [n_cl (p := n) (by omega), (tbl 5 _ (by omega) (by omega) (by omega)).1, (tbl 5 _ (by omega) (by omega) (by omega)).2]
        refine T2_ob (E_op hX0 (s_operate P1 va2 vc2 rfl rfl) (s_operate P2 va4 vc4 rfl rfl) (fun n => k_operate b1.1 b2.1 o1 o2 u1 u2 (by omega) (by omega) (by omega) va2 va4 va5 vc2 vc4 vc5 rfl rfl rfl rfl rfl (fun i hi => ?_)) (fun k => wl_operate k _ _ _) (fun k => wl_operate k _ _ _) (c := 8600) (by omega)) (fun s1 s2 hs => c18 s1 s2 _ _ rfl rfl hs)
        rw [upd_other (by omega), upd_other (by omega), upd_other (by omega), upd_other (by omega), upd_other (by omega), upd_other (by omega)]
    have c12 : ∀ O1 O2 : Nat → Int32, O1 1 = nI n → O2 1 = nI n → O1 2 = T 4 n → O2 2 = T 4 n → O1 101 - O1 100 = nI t → O2 101 - O2 100 = nI t → T2 (fun k => x_GV k (e + 1) 7 12 O1 r1.2) (fun k => x_GV k (e + 1) 7 12 O2 r2.2) (EQ (178000 + (e + 1)) t w XC σ1 σ2) := by
      intro O1 O2 q1 q2 q3 q4 q5 q6
      refine T2_suc (fun k => e_goesOn_12 k _ _ _) (fun k => e_goesOn_12 k _ _ _) ?_
      rw [q5, q6]
      show T2 (fun k => x_GV k (e + 1) 7 13 O1 (mSc r1.2 59 (nI t))) (fun k => x_GV k (e + 1) 7 13 O2 (mSc r2.2 59 (nI t))) _
      rw [hr1, hr2]
      exact c13 O1 O2 q1 q2 q3 q4
    rw [t1, t2]
    refine T2_ite Iff.rfl (fun y22 _ => ?_) (fun y22 _ => ?_)
    · have e3 : nI (t + mm) - 3 = nI t := by
        rw [hm3 y22]
        exact (n_sub (p := t + 3) (q := 3) (by omega) (by omega)).trans (by rw [Nat.add_sub_cancel])
      exact c12 _ _ j1 l1 j2 l2 e3 e3
    · have e3 : nI (t + mm) - 2 = nI t := by
        rw [hm2 y22]
        exact (n_sub (p := t + 2) (q := 2) (by omega) (by omega)).trans (by rw [Nat.add_sub_cancel])
      refine T2_suc (fun k => e_goesOn_11 k _ _ _) (fun k => e_goesOn_11 k _ _ _) ?_
      exact c12 _ _ j1 l1 j2 l2 e3 e3
  have c8 : T2 (fun k => x_GV k (e + 1) 7 8 N1 σ1) (fun k => x_GV k (e + 1) 7 8 N2 σ2) (EQ (178000 + (e + 1)) t w XC σ1 σ2) := by
    refine T2_suc (fun k => e_goesOn_8 k _ _ _) (fun k => e_goesOn_8 k _ _ _) ?_
    rw [m1, m2, y1, y2]
    refine T2_chk (n_in (by omega) (by omega)) (n_in (by omega) (by omega)) ?_
    rw [n_cl (p := n) (by omega), hS1.1 7 _ (by omega) (by omega) (by omega), hS2.1 7 _ (by omega) (by omega) (by omega)]
    refine T2_od ?_
    refine T2_ob (ev O3 r3 (T 7 n) (t + 1) w σ1 σ2 _ _ lo3 W3 FE_rf (Nat.le_refl _) (by omega) hI rfl rfl) (fun r1 r2 hr => ?_)
    obtain ⟨f1, f2, hr⟩ := hr
    refine T2_ite Iff.rfl (fun y22 _ => ?_) (fun y22 _ => ?_)
    · rcases hr with ⟨w2, hw2, hJ⟩ | ⟨z1, z2⟩
      · obtain ⟨e1, e2⟩ := EI_e hJ
        rw [e1, e2]
        refine T2_ite Iff.rfl (fun _ _ => ?_) (fun z _ => absurd rfl z)
        refine T2_chk (n_in3 (by omega) (by omega)) (n_in3 (by omega) (by omega)) ?_
        rw [(tb _ _ f1 f2 8 _ (by omega) (by omega) (by omega)).1, (tb _ _ f1 f2 8 _ (by omega) (by omega) (by omega)).2]
        obtain ⟨O4, r4, lo4, W4⟩ := hx4 y22
        refine T2_od ?_
        refine T2_ob (ev O4 r4 (T 8 n) (t + 2) w2 r1.2 r2.2 _ _ lo4 W4 f1 hw2 (by omega) hJ rfl rfl) (fun s1 s2 hs => ?_)
        obtain ⟨k1, k2, hs⟩ := hs
        rcases hs with ⟨w3, hw3, hJ3⟩ | ⟨z1, z2⟩
        · exact c9 3 w3 _ _ s1.2 s2.2 (fun _ => rfl) (fun c => absurd y22 c) m1 m2 y1 y2 (FE_tr f1 k1) (FE_tr f2 k2) (Or.inl ⟨by omega, hJ3⟩)
        · exact c9 3 w _ _ s1.2 s2.2 (fun _ => rfl) (fun c => absurd y22 c) m1 m2 y1 y2 (FE_tr f1 k1) (FE_tr f2 k2) (Or.inr ⟨EZ_mo z1 (by omega) (Nat.le_refl _), EZ_mo z2 (by omega) (Nat.le_refl _)⟩)
      · refine T2_ite ⟨fun z => absurd z (EZ_e z1), fun z => absurd z (EZ_e z2)⟩ (fun z _ => absurd z (EZ_e z1)) (fun _ _ => ?_)
        exact c9 3 w _ _ r1.2 r2.2 (fun _ => rfl) (fun c => absurd y22 c) m1 m2 y1 y2 f1 f2 (Or.inr ⟨EZ_mo z1 (by omega) (Nat.le_refl _), EZ_mo z2 (by omega) (Nat.le_refl _)⟩)
    · rcases hr with ⟨w2, hw2, hJ⟩ | ⟨z1, z2⟩
      · exact c9 2 w2 _ _ r1.2 r2.2 (fun c => absurd c y22) (fun _ => rfl) m1 m2 y1 y2 f1 f2 (Or.inl ⟨hw2, hJ⟩)
      · exact c9 2 w _ _ r1.2 r2.2 (fun c => absurd c y22) (fun _ => rfl) m1 m2 y1 y2 f1 f2 (Or.inr ⟨EZ_mo z1 (by omega) (Nat.le_refl _), EZ_mo z2 (by omega) (Nat.le_refl _)⟩)
  refine T2_suc (fun k => e_goesOn_1 k _ _ _) (fun k => e_goesOn_1 k _ _ _) ?_
  rw [y1, y2]
  refine T2_ite Iff.rfl (fun _ _ => c2) (fun _ _ => ?_)
  exact T2_ite Iff.rfl (fun _ _ => c2) (fun _ _ => c8)
end EGO
