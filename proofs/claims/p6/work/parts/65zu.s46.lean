/-! if .. then .. else .. end, of exps. -/
section CH
variable {T : Nat → Int32} {n o M P d : Nat} {E : En}
theorem mSet_9 {σ : MS} {l : Nat} {x : Int32} : (mSet σ 9 l x).2.2 9 l = x := by
  show updG σ.2.2 9 (upd (σ.2.2 9) l x) 9 l = x
  rw [updG_same, upd_same]
/-- elseifs -/
theorem ch_loop : ∀ (f : Nat), (∀ f', f' < f → S0 T n f') → ∀ (q v i e : Nat) (b : BT) (y : Option RT), G T n f 16 E o q v i e 0 0 b = some y → ∀ (σ : MS) (N : Nat → Int32) (Q : Int32 × MS → Prop), PS T n E o q v b σ → 1 ≤ M → M ≤ b.1 → P ≤ b.2.1 → b.1 + (n + 1 - q) + 3 * (d + 3) ≤ 70000 → b.2.1 + (n - q) ≤ 70000 → 12 * (21 - o) + 11 ≤ d → N 4 = nI e → M ≤ e → e < b.1 →
    (∀ (ρ : MS) (N' : Nat → Int32) (l : Nat), N' 3 = N 3 → N' 4 = nI l → l < 70000 → M ≤ l → FrM M P E.2.2.2.1 σ ρ → (match y with
      | none => ∃ m, Bb m ρ ∧ M ≤ m ∧ m ≤ b.1 + (n + 1 - q) + 3 * (d + 1) + 1
      | some s => PS T n E o s.1 s.2.1 s.2.2.2.2.1 ρ ∧ l = s.2.2.2.1) → Tm (fun k => x_GE k (d + 1) 1 4 N' ρ) Q) → Tm (fun k => x_GE k (d + 1) 1 2 N σ) Q
  | 0 => fun _ q v i e b y hG => by simp only [G] at hG; cases hG
  | f + 1 => fun H q v i e b y hG σ N Q hS h1 hM hP hn hp hdd hN4 e1 e2 hout => by
    rw [G_16] at hG
    have hq := PS_q hS
    have hv := PS_v hS
    have hu := tkN_b T n q hq.1
    have ih := ch_loop f (fun f' hf' => H f' (by omega))
    have H0 := H f (by omega)
    -- a node and its link, behind a fault; then out
    have bn : ∀ (ρ : MS) (m : Nat) (Z : Nat → Int32) (x1 x2 : Int32), y = none → Bb m ρ → M ≤ m → m + 1 ≤ b.1 + (n + 1 - q) + 3 * (d + 1) + 1 → FrM M P E.2.2.2.1 σ ρ → Tm (fun k => ob (x_node k 0 Z ρ) (fun r8 => if ¬ (N 4 < 0 ∨ 70000 ≤ (N 4).toNatClampNeg) then x_GE k (d + 1) 1 3 (upd (upd N 1 x1) 2 x2) (r8.2.1, r8.2.2.1, updG r8.2.2.2 9 (upd (r8.2.2.2 9) (N 4).toNatClampNeg r8.1)) else none)) Q := fun ρ m Z x1 x2 hy hB hMm hm hF => by
      subst hy
      refine Tm_ob (b_node (M := M) (P := P) (w := E.2.2.2.1) hB (by omega) hMm _) (fun r8 hr8 => ?_)
      rw [hN4]
      refine Tm_chk (n_in (by omega) (by omega)) ?_
      rw [n_cl (p := e) (by omega)]
      have hB9 : Bb (m + 1) (mSet r8.2 9 e r8.1) := Bb_set hr8.2.1
      have hF9 : FrM M P E.2.2.2.1 σ (mSet r8.2 9 e r8.1) := FrM_tr hF (FrM_tr hr8.2.2 (FrM_set (by decide) (by decide) (Or.inr e1) _))
      have j4 : upd (upd N 1 x1) 2 x2 4 = nI e := by rw [upd_other (by decide), upd_other (by decide)]; exact hN4
      have j3 : upd (upd N 1 x1) 2 x2 3 = N 3 := by rw [upd_other (by decide), upd_other (by decide)]
      generalize upd (upd N 1 x1) 2 x2 = N1 at j4 j3
      show Tm (fun k => x_GE k (d + 1) 1 3 N1 (mSet r8.2 9 e r8.1)) Q
      refine Tm_suc (fun k => by rw [xE_1]) ?_
      show Tm (fun k => if ¬ (N1 4 < 0 ∨ 70000 ≤ (N1 4).toNatClampNeg) then x_GE k (d + 1) 1 2 (upd N1 4 ((mSet r8.2 9 e r8.1).2.2 9 (N1 4).toNatClampNeg)) (mSet r8.2 9 e r8.1) else none) Q
      rw [j4]
      refine Tm_chk (n_in (by omega) (by omega)) ?_
      rw [n_cl (p := e) (by omega), mSet_9, hr8.1]
      refine Tm_suc (fun k => by rw [xE_1]) ?_
      refine Tm_ite (c := (mSet r8.2 9 e (nI m)).1 10 = 0) (fun z => absurd z hB9.1) (fun _ => ?_)
      rw [← hr8.1]
      exact hout _ _ m (by rw [upd_other (by decide)]; exact j3) (by rw [upd_same]; exact hr8.1) (by omega) hMm hF9 ⟨m + 1, hB9, by omega, hm⟩
    -- from then on, behind a fault
    have bt : ∀ (ρ : MS) (m : Nat) (x1 : Int32), y = none → Bb m ρ → M ≤ m → m + 1 ≤ b.1 + (n + 1 - q) + 3 * (d + 1) + 1 → FrM M P E.2.2.2.1 σ ρ → Tm (fun k => ob (x_wantWord k 0 (upd (fun _ => 0) 1 8) ρ) (fun r6 => ob (x_GE k d 3 0 (fun _ => 0) r6.2) (fun r7 => ob (x_node k 0 (upd (upd (upd (upd (fun _ => 0) 1 33) 2 x1) 3 r7.1) 4 0) r7.2) (fun r8 => if ¬ (N 4 < 0 ∨ 70000 ≤ (N 4).toNatClampNeg) then x_GE k (d + 1) 1 3 (upd (upd N 1 x1) 2 r7.1) (r8.2.1, r8.2.2.1, updG r8.2.2.2 9 (upd (r8.2.2.2 9) (N 4).toNatClampNeg r8.1)) else none)))) Q := fun ρ m x1 hy hB hMm hm hF => by
      refine Tm_ob (b_wantWord hB.1 _) (fun r1 hr1 => ?_)
      obtain ⟨u, τ⟩ := r1
      have hr1 : τ = ρ := hr1
      subst hr1
      obtain ⟨d', hd'⟩ : ∃ d', d = d' + 7 := ⟨d - 7, by omega⟩
      refine Tm_ob (by rw [hd']; exact b_exp hB.1) (fun r7 hr7 => ?_)
      subst hr7
      exact bn τ m _ _ _ hy hB hMm hm hF
    refine Tm_suc (fun k => by rw [xE_1]) ?_
    refine Tm_ite (c := σ.1 10 = 0) (fun _ => ?_) (fun z => absurd (PS_ok hS) z)
    refine Tm_ob (p_word hS (s := 9) (by decide) rfl) (fun r2 hr2 => ?_)
    obtain ⟨u, τ⟩ := r2
    obtain ⟨h3, hr2⟩ := hr2
    have h3 : τ = σ := h3
    subst h3
    refine Tm_ite (fun z => ?_) (fun z => ?_)
    · rw [if_neg (fun y => hr2.mpr y z)] at hG
      cases hG
      exact hout τ N e rfl hN4 (by omega) e1 FrM_rf ⟨hS, rfl⟩
    have hK := hr2.mp z
    rw [if_pos hK] at hG
    have hu4 := hu.2.2.2 (by rw [hK]; decide)
    refine Tm_ob (p_take (M := M) (P := P) (w := E.2.2.2.1) hS _) (fun r4 hr4 => ?_)
    show Tm (fun k => ob (x_GE k d 3 0 (fun _ => 0) r4.2) (fun r5 => ob (x_wantWord k 0 (upd (fun _ => 0) 1 8) r5.2) (fun r6 => ob (x_GE k d 3 0 (fun _ => 0) r6.2) (fun r7 => ob (x_node k 0 (upd (upd (upd (upd (fun _ => 0) 1 33) 2 r5.1) 3 r7.1) 4 0) r7.2) (fun r8 => if ¬ (N 4 < 0 ∨ 70000 ≤ (N 4).toNatClampNeg) then x_GE k (d + 1) 1 3 (upd (upd N 1 r5.1) 2 r7.1) (r8.2.1, r8.2.2.1, updG r8.2.2.2 9 (upd (r8.2.2.2 9) (N 4).toNatClampNeg r8.1)) else none))))) Q
    rcases gT_any hG with ⟨t4, hy⟩ | ⟨t4, hG⟩
    · rcases hr4.2 with ⟨_, hB⟩ | ⟨z, _⟩
      · obtain ⟨d', hd'⟩ : ∃ d', d = d' + 7 := ⟨d - 7, by omega⟩
        refine Tm_ob (by rw [hd']; exact b_exp hB.1) (fun r7 hr7 => ?_)
        subst hr7
        exact bt r4.2 b.1 0 hy hB hM (by omega) hr4.1
      · exact absurd t4 z
    rcases hr4.2 with ⟨z, _⟩ | ⟨_, hS4⟩
    · exact absurd z t4
    rcases gb_any hG with ⟨h5, hy⟩ | ⟨s, h5, hG⟩
    · refine Tm_ob (H0 _ _ _ _ _ _ _ _ h5 r4.2 _ d M P hS4 h1 hM hP (by omega) (by omega) (by omega) trivial) (fun r5 hr5 => ?_)
      obtain ⟨⟨m1, hm, hmk, hMm⟩, _, hF5⟩ := hr5
      exact bt r5.2 m1 r5.1 hy hm hMm (by omega) (FrM_tr hr4.1 hF5)
    obtain ⟨⟨a1, a2, a3, a4, a5, a6, a7, a8⟩, a9⟩ := mo_of (M := M) hu.2.1 hv h5 hM h1 trivial (fun h => h) (fun h => h)
    refine Tm_ob (H0 _ _ _ _ _ _ _ _ h5 r4.2 _ d M P hS4 h1 hM hP (by omega) (by omega) (by omega) trivial) (fun r5 hr5 => ?_)
    obtain ⟨hS5, hr51, hF5⟩ := hr5
    have hv5 := PS_v hS5
    have hws := tkN_b T n s.1 a2
    refine Tm_ob (p_wantWord (M := M) (P := P) (w := E.2.2.2.1) hS5 (s := 8) (by decide) rfl) (fun r6 hr6 => ?_)
    have hF6 := FrM_tr hr4.1 (FrM_tr hF5 hr6.1)
    rcases gW_any hG with ⟨t6, hy⟩ | ⟨t6, hG⟩
    · rcases hr6.2 with ⟨_, hB⟩ | ⟨z, _⟩
      · obtain ⟨d', hd'⟩ : ∃ d', d = d' + 7 := ⟨d - 7, by omega⟩
        refine Tm_ob (by rw [hd']; exact b_exp hB.1) (fun r7 hr7 => ?_)
        subst hr7
        exact bn r6.2 s.2.2.2.2.1.1 _ _ _ hy hB (by omega) (by omega) hF6
      · exact absurd z t6
    rcases hr6.2 with ⟨z, _⟩ | ⟨_, hS6⟩
    · exact absurd t6 z
    have hws4 := hws.2.2.2 (by rw [t6.1]; decide)
    rcases gb_any hG with ⟨h7, hy⟩ | ⟨s7, h7, hG⟩
    · refine Tm_ob (H0 _ _ _ _ _ _ _ _ h7 r6.2 _ d M P hS6 h1 (by omega) (by omega) (by omega) (by omega) (by omega) trivial) (fun r7 hr7 => ?_)
      obtain ⟨⟨m1, hm, hmk, hMm⟩, _, hF7⟩ := hr7
      exact bn r7.2 m1 _ _ _ hy hm hMm (by omega) (FrM_tr hF6 hF7)
    obtain ⟨⟨f1, f2, f3, f4, f5, f6, f7, f8⟩, f9⟩ := mo_of (M := M) hws.2.1 hv5 h7 (by omega) h1 trivial (fun h => h) (fun h => h)
    refine Tm_ob (H0 _ _ _ _ _ _ _ _ h7 r6.2 _ d M P hS6 h1 (by omega) (by omega) (by omega) (by omega) (by omega) trivial) (fun r7 hr7 => ?_)
    obtain ⟨hS7, hr71, hF7⟩ := hr7
    refine Tm_ob (p_node (M := M) (P := P) (w := E.2.2.2.1) hS7 (by omega) (by omega) _) (fun r8 hr8 => ?_)
    obtain ⟨hr81, hS8, hF8⟩ := hr8
    have w2 : (upd (upd (upd (upd (fun _ => (0 : Int32)) 1 33) 2 r5.1) 3 r7.1) 4 0) 2 = nI s.2.2.2.1 := by rw [upd_other (by decide), upd_other (by decide), upd_same]; exact hr51
    have w3 : (upd (upd (upd (upd (fun _ => (0 : Int32)) 1 33) 2 r5.1) 3 r7.1) 4 0) 3 = nI s7.2.2.2.1 := by rw [upd_other (by decide), upd_same]; exact hr71
    rw [w2, w3] at hS8
    rw [hN4, hr81]
    refine Tm_chk (n_in (by omega) (by omega)) ?_
    rw [n_cl (p := e) (by omega)]
    have hS9 := PS_set (l := e) hS8 (j := 9) (by decide) (by decide) (nI s7.2.2.2.2.1.1)
    have hF9 : FrM M P E.2.2.2.1 τ (mSet r8.2 9 e (nI s7.2.2.2.2.1.1)) := FrM_tr hF6 (FrM_tr hF7 (FrM_tr hF8 (FrM_set (by decide) (by decide) (Or.inr e1) _)))
    have j4 : upd (upd N 1 r5.1) 2 r7.1 4 = nI e := by rw [upd_other (by decide), upd_other (by decide)]; exact hN4
    have j3 : upd (upd N 1 r5.1) 2 r7.1 3 = N 3 := by rw [upd_other (by decide), upd_other (by decide)]
    generalize upd (upd N 1 r5.1) 2 r7.1 = N1 at j4 j3
    show Tm (fun k => x_GE k (d + 1) 1 3 N1 (mSet r8.2 9 e (nI s7.2.2.2.2.1.1))) Q
    refine Tm_suc (fun k => by rw [xE_1]) ?_
    show Tm (fun k => if ¬ (N1 4 < 0 ∨ 70000 ≤ (N1 4).toNatClampNeg) then x_GE k (d + 1) 1 2 (upd N1 4 ((mSet r8.2 9 e (nI s7.2.2.2.2.1.1)).2.2 9 (N1 4).toNatClampNeg)) (mSet r8.2 9 e (nI s7.2.2.2.2.1.1)) else none) Q
    rw [j4]
    refine Tm_chk (n_in (by omega) (by omega)) ?_
    rw [n_cl (p := e) (by omega), mSet_9]
    refine ih _ _ _ _ _ y hG (mSet r8.2 9 e (nI s7.2.2.2.2.1.1)) _ Q hS9 h1 (by rw [bSet_1, bNode_1]; omega) (by rw [bSet_p, bNode_p]; omega) (by rw [bSet_1, bNode_1]; omega) (by rw [bSet_p, bNode_p]; omega) hdd upd_same (by omega) (by rw [bSet_1, bNode_1]; omega) (fun ρ N' l k3 k4 hl hMl hF hm => ?_)
    refine hout ρ N' l (k3.trans (by rw [upd_other (by decide)]; exact j3)) k4 hl hMl (FrM_tr hF9 hF) ?_
    cases y with
    | none => obtain ⟨m, m1, m2, m3⟩ := hm; exact ⟨m, m1, m2, by rw [bSet_1, bNode_1] at m3; omega⟩
    | some t => exact hm
set_option maxHeartbeats 8000000 in
theorem m_choice {f q v : Nat} {b : BT} {x : Option RT} {σ : MS} {L : Nat → Int32} (H : ∀ f', f' ≤ f → S0 T n f')
    (hG : gO o (gT T n q (fun q1 => gb (G T n f 0 E (o + 1) q1 v 0 0 0 0 b) (fun r => gW T n 40 r.1 (fun q2 => gb (G T n f 0 E (o + 1) q2 r.2.1 0 0 0 0 r.2.2.2.2.1) (fun s => gb (G T n f 16 E (o + 1) s.1 s.2.1 s.2.2.2.2.1.1 s.2.2.2.2.1.1 0 0 (bNode s.2.2.2.2.1 33 (nI r.2.2.2.1) (nI s.2.2.2.1) 0)) (fun t => gW T n 42 t.1 (fun q3 => gb (G T n f 0 E (o + 1) q3 t.2.1 0 0 0 0 t.2.2.2.2.1) (fun u => gW T n 38 u.1 (fun q4 => some (some (q4, u.2.1, 0, u.2.2.2.2.1.1 + 1, bNode (bSet (bNode u.2.2.2.2.1 33 (-1) (nI u.2.2.2.1) 0) 9 t.2.2.2.1 (nI u.2.2.2.2.1.1)) 15 0 (nI s.2.2.2.2.1.1) 0, []))))))))))) = some x)
    (hK : ¬ tkK T n q = 25) (hS : PS T n E o q v b σ) (h1 : 1 ≤ M) (hM : M ≤ b.1) (hP : P ≤ b.2.1) (hn : b.1 + (n + 1 - q) + 3 * (d + 3) ≤ 70000) (hp : b.2.1 + (n - q) ≤ 70000) (hdd : 12 * (21 - o) + 1 ≤ d + 1) : Tm (fun k => x_GE k (d + 1) 1 0 L σ) (Po T n E o M P (b.1 + (n + 1 - q) + 3 * (d + 2)) σ x) := by
  have hq := PS_q hS
  have hv := PS_v hS
  have ho := PS_o hS
  have hu := tkN_b T n q hq.1
  have hu4 := hu.2.2.2 hK
  have H0 := H f (Nat.le_refl _)
  have b5 : ∀ (ρ : MS) (m : Nat) (N : Nat → Int32), Bb m ρ → M ≤ m → m + 1 ≤ b.1 + (n + 1 - q) + 3 * (d + 2) → FrM M P E.2.2.2.1 σ ρ → Tm (fun k => x_GE k (d + 1) 1 5 N ρ) (Po T n E o M P (b.1 + (n + 1 - q) + 3 * (d + 2)) σ none) := fun ρ m N hB hMm hm hF => by
    refine Tm_suc (fun k => by rw [xE_1]) ?_
    refine Tm_ob (b_wantWord hB.1 _) (fun r1 hr1 => ?_)
    obtain ⟨u, τ⟩ := r1
    have hr1 : τ = ρ := hr1
    subst hr1
    show Tm (fun k => x_GE k (d + 1) 1 6 N (mOpn τ (τ.1 13 - 1))) _
    refine Tm_suc (fun k => by rw [xE_1]) ?_
    refine Tm_ob (b_node (M := M) (P := P) (w := E.2.2.2.1) (Bb_opn hB _) (by omega) hMm _) (fun r8 hr8 => ?_)
    exact Tm_some ⟨⟨_, hr8.2.1, hm, by omega⟩, ⟨_, hr8.1, by omega, Or.inr hMm⟩, FrM_tr hF (FrM_tr (FrM_opn _) hr8.2.2)⟩
  -- the node of else, behind a fault
  have bn : ∀ (ρ : MS) (m l : Nat) (N Z : Nat → Int32) (x2 : Int32), N 4 = nI l → l < 70000 → M ≤ l → Bb m ρ → M ≤ m → m + 2 ≤ b.1 + (n + 1 - q) + 3 * (d + 2) → FrM M P E.2.2.2.1 σ ρ → Tm (fun k => ob (x_node k 0 Z ρ) (fun r3 => if ¬ (N 4 < 0 ∨ 70000 ≤ (N 4).toNatClampNeg) then x_GE k (d + 1) 1 5 (upd N 2 x2) (r3.2.1, r3.2.2.1, updG r3.2.2.2 9 (upd (r3.2.2.2 9) (N 4).toNatClampNeg r3.1)) else none)) (Po T n E o M P (b.1 + (n + 1 - q) + 3 * (d + 2)) σ none) := fun ρ m l N Z x2 hN4 hl hMl hB hMm hm hF => by
    refine Tm_ob (b_node (M := M) (P := P) (w := E.2.2.2.1) hB (by omega) hMm _) (fun r8 hr8 => ?_)
    rw [hN4]
    refine Tm_chk (n_in (by omega) (by omega)) ?_
    rw [n_cl (p := l) (by omega)]
    exact b5 (mSet r8.2 9 l r8.1) (m + 1) _ (Bb_set hr8.2.1) (by omega) (by omega) (FrM_tr hF (FrM_tr hr8.2.2 (FrM_set (by decide) (by decide) (Or.inr hMl) _)))
  have b4 : ∀ (ρ : MS) (m l : Nat) (N : Nat → Int32), N 4 = nI l → l < 70000 → M ≤ l → Bb m ρ → M ≤ m → m + 2 ≤ b.1 + (n + 1 - q) + 3 * (d + 2) → FrM M P E.2.2.2.1 σ ρ → Tm (fun k => x_GE k (d + 1) 1 4 N ρ) (Po T n E o M P (b.1 + (n + 1 - q) + 3 * (d + 2)) σ none) := fun ρ m l N hN4 hl hMl hB hMm hm hF => by
    refine Tm_suc (fun k => by rw [xE_1]) ?_
    refine Tm_ob (b_wantWord hB.1 _) (fun r1 hr1 => ?_)
    obtain ⟨u, τ⟩ := r1
    have hr1 : τ = ρ := hr1
    subst hr1
    show Tm (fun k => ob (x_GE k d 3 0 (fun _ => 0) τ) _) _
    obtain ⟨d', hd'⟩ : ∃ d', d = d' + 7 := ⟨d - 7, by omega⟩
    refine Tm_ob (by rw [hd']; exact b_exp hB.1) (fun r7 hr7 => ?_)
    subst hr7
    exact bn τ m l N _ _ hN4 hl hMl hB hMm hm hF
  -- the first node, behind a fault
  have bf : ∀ (ρ : MS) (m : Nat) (Z N : Nat → Int32) (x1 x2 : Int32), Bb m ρ → M ≤ m → m + 3 ≤ b.1 + (n + 1 - q) + 3 * (d + 2) → FrM M P E.2.2.2.1 σ ρ → Tm (fun k => ob (x_node k 0 Z ρ) (fun r4 => x_GE k (d + 1) 1 2 (upd (upd (upd (upd N 1 x1) 2 x2) 3 r4.1) 4 r4.1) r4.2)) (Po T n E o M P (b.1 + (n + 1 - q) + 3 * (d + 2)) σ none) := fun ρ m Z N x1 x2 hB hMm hm hF => by
    refine Tm_ob (b_node (M := M) (P := P) (w := E.2.2.2.1) hB (by omega) hMm _) (fun r8 hr8 => ?_)
    refine Tm_suc (fun k => by rw [xE_1]) ?_
    refine Tm_ite (c := r8.2.1 10 = 0) (fun z => absurd z hr8.2.1.1) (fun _ => ?_)
    exact b4 r8.2 (m + 1) m _ (by rw [upd_same]; exact hr8.1) (by omega) hMm hr8.2.1 (by omega) (by omega) (FrM_tr hF hr8.2.2)
  have b1 : ∀ (ρ : MS) (N : Nat → Int32), Bb b.1 ρ → FrM M P E.2.2.2.1 σ ρ → Tm (fun k => x_GE k (d + 1) 1 1 N ρ) (Po T n E o M P (b.1 + (n + 1 - q) + 3 * (d + 2)) σ none) := fun ρ N hB hF => by
    refine Tm_suc (fun k => by rw [xE_1]) ?_
    show Tm (fun k => ob (x_GE k d 3 0 (fun _ => 0) ρ) (fun r1 => ob (x_wantWord k 0 (upd (fun _ => 0) 1 8) r1.2) (fun r2 => ob (x_GE k d 3 0 (fun _ => 0) r2.2) (fun r3 => ob (x_node k 0 (upd (upd (upd (upd (fun _ => 0) 1 33) 2 r1.1) 3 r3.1) 4 0) r3.2) (fun r4 => x_GE k (d + 1) 1 2 (upd (upd (upd (upd N 1 r1.1) 2 r3.1) 3 r4.1) 4 r4.1) r4.2))))) _
    obtain ⟨d', hd'⟩ : ∃ d', d = d' + 7 := ⟨d - 7, by omega⟩
    refine Tm_ob (P := fun r => r = (0, ρ)) (by rw [hd']; exact b_exp hB.1) (fun r7 hr7 => ?_)
    subst hr7
    refine Tm_ob (b_wantWord hB.1 _) (fun r1 hr1 => ?_)
    obtain ⟨u, τ⟩ := r1
    have hr1 : τ = ρ := hr1
    subst hr1
    refine Tm_ob (P := fun r => r = (0, τ)) (by rw [hd']; exact b_exp hB.1) (fun r7 hr7 => ?_)
    subst hr7
    exact bf τ b.1 _ N _ _ hB hM (by omega) hF
  refine Tm_suc (fun k => by rw [xE_1]) ?_
  refine Tm_ob (p_open (M := M) (P := P) (w := E.2.2.2.1) hS _) (fun r1 hr1 => ?_)
  rcases gO_any hG with ⟨o0, rfl⟩ | ⟨o0, hG⟩
  · rcases hr1.2 with ⟨_, hB⟩ | ⟨y, _⟩
    · exact Tm_ite (c := r1.2.1 10 = 0) (fun c => absurd c hB.1) (fun _ => b1 r1.2 _ hB hr1.1)
    · omega
  rcases hr1.2 with ⟨y, _⟩ | ⟨ho2, hS1, h13⟩
  · exact absurd y o0
  refine Tm_ite (c := r1.2.1 10 = 0) (fun _ => ?_) (fun c => absurd (PS_ok hS1) c)
  refine Tm_ob (p_take (M := M) (P := P) (w := E.2.2.2.1) hS1 _) (fun r3 hr3 => ?_)
  have hF3 := FrM_tr hr1.1 hr3.1
  rcases gT_any hG with ⟨t3, rfl⟩ | ⟨t3, hG⟩
  · rcases hr3.2 with ⟨_, hB⟩ | ⟨y, _⟩
    · exact b1 r3.2 _ hB hF3
    · exact absurd t3 y
  rcases hr3.2 with ⟨y, _⟩ | ⟨_, hS3⟩
  · exact absurd y t3
  refine Tm_suc (fun k => by rw [xE_1]) ?_
  show Tm (fun k => ob (x_GE k d 3 0 (fun _ => 0) r3.2) (fun r1 => ob (x_wantWord k 0 (upd (fun _ => 0) 1 8) r1.2) (fun r2 => ob (x_GE k d 3 0 (fun _ => 0) r2.2) (fun r5 => ob (x_node k 0 (upd (upd (upd (upd (fun _ => 0) 1 33) 2 r1.1) 3 r5.1) 4 0) r5.2) (fun r4 => x_GE k (d + 1) 1 2 (upd (upd (upd (upd L 1 r1.1) 2 r5.1) 3 r4.1) 4 r4.1) r4.2))))) _
  -- the condition
  rcases gb_any hG with ⟨h5, rfl⟩ | ⟨s, h5, hG⟩
  · refine Tm_ob (H0 _ _ _ _ _ _ _ _ h5 r3.2 _ d M P hS3 h1 hM hP (by omega) (by omega) (by omega) trivial) (fun r5 hr5 => ?_)
    obtain ⟨⟨m1, hm, hmk, hMm⟩, _, hF5⟩ := hr5
    refine Tm_ob (b_wantWord hm.1 _) (fun r6 hr6 => ?_)
    obtain ⟨u, τ⟩ := r6
    have hr6 : τ = r5.2 := hr6
    subst hr6
    obtain ⟨d', hd'⟩ : ∃ d', d = d' + 7 := ⟨d - 7, by omega⟩
    refine Tm_ob (P := fun r => r = (0, r5.2)) (by rw [hd']; exact b_exp hm.1) (fun r7 hr7 => ?_)
    subst hr7
    exact bf r5.2 m1 _ L _ _ hm hMm (by omega) (FrM_tr hF3 hF5)
  obtain ⟨⟨a1, a2, a3, a4, a5, a6, a7, a8⟩, a9⟩ := mo_of (M := M) hu.2.1 hv h5 hM h1 trivial (fun h => h) (fun h => h)
  refine Tm_ob (H0 _ _ _ _ _ _ _ _ h5 r3.2 _ d M P hS3 h1 hM hP (by omega) (by omega) (by omega) trivial) (fun r5 hr5 => ?_)
  obtain ⟨hS5, hr51, hF5⟩ := hr5
  have hv5 := PS_v hS5
  have hws := tkN_b T n s.1 a2
  refine Tm_ob (p_wantWord (M := M) (P := P) (w := E.2.2.2.1) hS5 (s := 8) (by decide) rfl) (fun r6 hr6 => ?_)
  have hF6 := FrM_tr hF3 (FrM_tr hF5 hr6.1)
  rcases gW_any hG with ⟨t6, rfl⟩ | ⟨t6, hG⟩
  · rcases hr6.2 with ⟨_, hB⟩ | ⟨z, _⟩
    · obtain ⟨d', hd'⟩ : ∃ d', d = d' + 7 := ⟨d - 7, by omega⟩
      refine Tm_ob (P := fun r => r = (0, r6.2)) (by rw [hd']; exact b_exp hB.1) (fun r7 hr7 => ?_)
      subst hr7
      exact bf r6.2 s.2.2.2.2.1.1 _ L _ _ hB (by omega) (by omega) hF6
    · exact absurd z t6
  rcases hr6.2 with ⟨z, _⟩ | ⟨_, hS6⟩
  · exact absurd t6 z
  have hws4 := hws.2.2.2 (by rw [t6.1]; decide)
  rcases gb_any hG with ⟨h7, rfl⟩ | ⟨s7, h7, hG⟩
  · refine Tm_ob (H0 _ _ _ _ _ _ _ _ h7 r6.2 _ d M P hS6 h1 (by omega) (by omega) (by omega) (by omega) (by omega) trivial) (fun r7 hr7 => ?_)
    obtain ⟨⟨m1, hm, hmk, hMm⟩, _, hF7⟩ := hr7
    exact bf r7.2 m1 _ L _ _ hm hMm (by omega) (FrM_tr hF6 hF7)
  obtain ⟨⟨f1, f2, f3, f4, f5, f6, f7, f8⟩, f9⟩ := mo_of (M := M) hws.2.1 hv5 h7 (by omega) h1 trivial (fun h => h) (fun h => h)
  refine Tm_ob (H0 _ _ _ _ _ _ _ _ h7 r6.2 _ d M P hS6 h1 (by omega) (by omega) (by omega) (by omega) (by omega) trivial) (fun r7 hr7 => ?_)
  obtain ⟨hS7, hr71, hF7⟩ := hr7
  refine Tm_ob (p_node (M := M) (P := P) (w := E.2.2.2.1) hS7 (by omega) (by omega) _) (fun r8 hr8 => ?_)
  obtain ⟨hr81, hS8, hF8⟩ := hr8
  have hv8 := PS_v hS8
  have w2 : (upd (upd (upd (upd (fun _ => (0 : Int32)) 1 33) 2 r5.1) 3 r7.1) 4 0) 2 = nI s.2.2.2.1 := by rw [upd_other (by decide), upd_other (by decide), upd_same]; exact hr51
  have w3 : (upd (upd (upd (upd (fun _ => (0 : Int32)) 1 33) 2 r5.1) 3 r7.1) 4 0) 3 = nI s7.2.2.2.1 := by rw [upd_other (by decide), upd_same]; exact hr71
  rw [w2, w3] at hS8
  have hF8 : FrM M P E.2.2.2.1 σ r8.2 := FrM_tr hF6 (FrM_tr hF7 hF8)
  -- the elseifs
  obtain ⟨y, hGl, hy⟩ : ∃ y, G T n f 16 E (o + 1) s7.1 s7.2.1 s7.2.2.2.2.1.1 s7.2.2.2.2.1.1 0 0 (bNode s7.2.2.2.2.1 33 (nI s.2.2.2.1) (nI s7.2.2.2.1) 0) = some y ∧ (match y with | none => x = none | some t => gW T n 42 t.1 (fun q3 => gb (G T n f 0 E (o + 1) q3 t.2.1 0 0 0 0 t.2.2.2.2.1) (fun u => gW T n 38 u.1 (fun q4 => some (some (q4, u.2.1, 0, u.2.2.2.2.1.1 + 1, bNode (bSet (bNode u.2.2.2.2.1 33 (-1) (nI u.2.2.2.1) 0) 9 t.2.2.2.1 (nI u.2.2.2.2.1.1)) 15 0 (nI s7.2.2.2.2.1.1) 0, []))))) = some x) := by
    rcases gb_any hG with ⟨h9, hy⟩ | ⟨t, h9, hG⟩
    · exact ⟨none, h9, hy⟩
    · exact ⟨some t, h9, hG⟩
  refine ch_loop (M := M) (P := P) (d := d) f (fun f' hf' => H f' (by omega)) _ _ _ _ _ y hGl r8.2 _ _ hS8 h1 (by rw [bNode_1]; omega) (by rw [bNode_p]; omega) (by rw [bNode_1]; omega) (by rw [bNode_p]; omega) (by omega) (by rw [upd_same]; exact hr81) (by omega) (by rw [bNode_1]; omega) (fun ρ N' l k3 k4 hl hMl hF hm => ?_)
  have k3 : N' 3 = nI s7.2.2.2.2.1.1 := by rw [k3, upd_other (by decide), upd_same]; exact hr81
  have hFρ := FrM_tr hF8 hF
  cases y with
  | none =>
    have hx : x = none := hy
    subst hx
    obtain ⟨m, m1, m2, m3⟩ := hm
    rw [bNode_1] at m3
    exact b4 ρ m l N' k4 hl hMl m1 m2 (by omega) hFρ
  | some u =>
    have hG : gW T n 42 u.1 (fun q3 => gb (G T n f 0 E (o + 1) q3 u.2.1 0 0 0 0 u.2.2.2.2.1) (fun w => gW T n 38 w.1 (fun q4 => some (some (q4, w.2.1, 0, w.2.2.2.2.1.1 + 1, bNode (bSet (bNode w.2.2.2.2.1 33 (-1) (nI w.2.2.2.1) 0) 9 u.2.2.2.1 (nI w.2.2.2.2.1.1)) 15 0 (nI s7.2.2.2.2.1.1) 0, []))))) = some x := hy
    obtain ⟨hSu, rfl⟩ := hm
    obtain ⟨x1, x2⟩ := g_mono T n f 16 _ _ _ _ _ _ _ _ _ u f2 (by omega) hGl M (by rw [bNode_1]; omega) h1 (⟨by omega, by rw [bNode_1]; omega⟩ : M ≤ _ ∧ _ < _)
    obtain ⟨c1, c2, c3, c4, c5, c6, c7, c8⟩ := (x1 : Mo n _ _ _ u)
    have c9 : M ≤ u.2.2.2.1 ∧ u.2.2.2.1 < u.2.2.2.2.1.1 := x2
    rw [bNode_1] at c5 c6
    rw [bNode_p] at c7 c8
    have hvu := PS_v hSu
    have hwu := tkN_b T n u.1 c2
    refine Tm_suc (fun k => by rw [xE_1]) ?_
    refine Tm_ob (p_wantWord (M := M) (P := P) (w := E.2.2.2.1) hSu (s := 10) (by decide) rfl) (fun ra hra => ?_)
    have hFa := FrM_tr hFρ hra.1
    show Tm (fun k => ob (x_GE k d 3 0 (fun _ => 0) ra.2) _) _
    rcases gW_any hG with ⟨ta, rfl⟩ | ⟨ta, hG⟩
    · rcases hra.2 with ⟨_, hB⟩ | ⟨z, _⟩
      · obtain ⟨d', hd'⟩ : ∃ d', d = d' + 7 := ⟨d - 7, by omega⟩
        refine Tm_ob (P := fun r => r = (0, ra.2)) (by rw [hd']; exact b_exp hB.1) (fun r7 hr7 => ?_)
        subst hr7
        exact bn ra.2 u.2.2.2.2.1.1 u.2.2.2.1 N' _ _ k4 hl hMl hB (by omega) (by omega) hFa
      · exact absurd z ta
    rcases hra.2 with ⟨z, _⟩ | ⟨_, hSa⟩
    · exact absurd ta z
    have hwu4 := hwu.2.2.2 (by rw [ta.1]; decide)
    rcases gb_any hG with ⟨h9, rfl⟩ | ⟨w, h9, hG⟩
    · refine Tm_ob (H0 _ _ _ _ _ _ _ _ h9 ra.2 _ d M P hSa h1 (by omega) (by omega) (by omega) (by omega) (by omega) trivial) (fun rb hrb => ?_)
      obtain ⟨⟨m1, hm, hmk, hMm⟩, _, hFb⟩ := hrb
      exact bn rb.2 m1 u.2.2.2.1 N' _ _ k4 hl hMl hm hMm (by omega) (FrM_tr hFa hFb)
    obtain ⟨⟨g1, g2, g3, g4, g5, g6, g7, g8⟩, g9⟩ := mo_of (M := M) hwu.2.1 hvu h9 (by omega) h1 trivial (fun h => h) (fun h => h)
    refine Tm_ob (H0 _ _ _ _ _ _ _ _ h9 ra.2 _ d M P hSa h1 (by omega) (by omega) (by omega) (by omega) (by omega) trivial) (fun rb hrb => ?_)
    obtain ⟨hSb, hrb1, hFb⟩ := hrb
    have hww := tkN_b T n w.1 g2
    refine Tm_ob (p_node (M := M) (P := P) (w := E.2.2.2.1) hSb (by omega) (by omega) _) (fun rc hrc => ?_)
    obtain ⟨hrc1, hSc, hFc⟩ := hrc
    have w3' : (upd (upd (upd (upd (fun _ => (0 : Int32)) 1 33) 2 (-1)) 3 rb.1) 4 0) 3 = nI w.2.2.2.1 := by rw [upd_other (by decide), upd_same]; exact hrb1
    rw [w3'] at hSc
    rw [k4, hrc1]
    refine Tm_chk (n_in (by omega) (by omega)) ?_
    rw [n_cl (p := u.2.2.2.1) (by omega)]
    have hSd := PS_set (l := u.2.2.2.1) hSc (j := 9) (by decide) (by decide) (nI w.2.2.2.2.1.1)
    have hFd : FrM M P E.2.2.2.1 σ (mSet rc.2 9 u.2.2.2.1 (nI w.2.2.2.2.1.1)) := FrM_tr hFa (FrM_tr hFb (FrM_tr hFc (FrM_set (by decide) (by decide) (Or.inr hMl) _)))
    show Tm (fun k => x_GE k (d + 1) 1 5 (upd N' 2 rb.1) (mSet rc.2 9 u.2.2.2.1 (nI w.2.2.2.2.1.1))) _
    refine Tm_suc (fun k => by rw [xE_1]) ?_
    refine Tm_ob (p_wantWord (M := M) (P := P) (w := E.2.2.2.1) hSd (s := 6) (by decide) rfl) (fun re hre => ?_)
    show Tm (fun k => x_GE k (d + 1) 1 6 (upd N' 2 rb.1) (mOpn re.2 (re.2.1 13 - 1))) _
    refine Tm_suc (fun k => by rw [xE_1]) ?_
    have hFe := FrM_tr hFd (FrM_tr hre.1 (FrM_opn (re.2.1 13 - 1)))
    rcases gW_any hG with ⟨te, rfl⟩ | ⟨te, hG⟩
    · rcases hre.2 with ⟨_, hB⟩ | ⟨z, _⟩
      · rw [bSet_1, bNode_1] at hB
        refine Tm_ob (b_node (M := M) (P := P) (w := E.2.2.2.1) (Bb_opn hB _) (by omega) (by omega) _) (fun r8 hr8 => ?_)
        exact Tm_some ⟨⟨_, hr8.2.1, by omega, by omega⟩, ⟨_, hr8.1, by omega, Or.inr (by omega)⟩, FrM_tr hFe hr8.2.2⟩
      · exact absurd z te
    rcases hre.2 with ⟨z, _⟩ | ⟨_, hSe⟩
    · exact absurd te z
    have hww4 := hww.2.2.2 (by rw [te.1]; decide)
    refine Tm_ob (p_node (M := M) (P := P) (w := E.2.2.2.1) (PS_clo hSe) (by rw [bSet_1, bNode_1]; omega) (by rw [bSet_1, bNode_1]; omega) _) (fun rf hrf => ?_)
    obtain ⟨hrf1, hSf, hFf⟩ := hrf
    cases hG
    refine Tm_some ⟨?_, hrf1, FrM_tr hFe hFf⟩
    have w5 : (upd (upd (upd (upd (fun _ => (0 : Int32)) 1 15) 2 0) 3 (upd N' 2 rb.1 3)) 4 0) 3 = nI s7.2.2.2.2.1.1 := by rw [upd_other (by decide), upd_same, upd_other (by decide)]; exact k3
    rw [w5] at hSf
    exact hSf
end CH
