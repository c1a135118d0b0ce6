/-! Members in brackets. -/
section LISTED
variable {T : Nat → Int32} {n o M P d : Nat} {E : En}
/-- from the comma on -/
theorem list_loop : ∀ (f : Nat), (∀ f', f' < f → S0 T n f') → ∀ (q v i e c g : Nat) (b : BT) (y : Option RT), G T n f 15 E o q v i e c g b = some y → ∀ (σ : MS) (N : Nat → Int32), PS T n E o q v b σ → 1 ≤ M → M ≤ b.1 → P ≤ b.2.1 → b.1 + (n + 1 - q) + 3 * (d + 3) ≤ 70000 → b.2.1 + (n - q) ≤ 70000 → 12 * (21 - o) + 11 ≤ d → c ≤ q → 1 ≤ c → g ≤ 1 → N 1 = nI g → N 2 = nI i → N 3 = nI e → N 4 = nI c → M ≤ i → i < b.1 → M ≤ e → e < b.1 → Tm (fun k => x_GE k (d + 1) 5 2 N σ) (Po T n E o M P (b.1 + (n + 1 - q) + 3 * (d + 2)) σ y)
  | 0 => fun _ q v i e c g b y hG => by simp only [G] at hG; cases hG
  | f + 1 => fun H q v i e c g b y hG σ N hS h1 hM hP hn hp hdd hcq hc1 hg hN1 hN2 hN3 hN4 i1 i2 e1 e2 => by
    rw [G_15] at hG
    have hq := PS_q hS
    have hv := PS_v hS
    have hu := tkN_b T n q hq.1
    have ih := list_loop f (fun f' hf' => H f' (by omega))
    have H0 := H f (by omega)
    -- the end, behind a fault
    have b7 : ∀ (ρ : MS) (m : Nat) (N : Nat → Int32), Bb m ρ → M ≤ m → m + 1 ≤ b.1 + (n + 1 - q) + 3 * (d + 2) → FrM M P E.2.2.2.1 σ ρ → Tm (fun k => x_GE k (d + 1) 5 7 N ρ) (Po T n E o M P (b.1 + (n + 1 - q) + 3 * (d + 2)) σ none) := fun ρ m N hB hMm hm hF => by
      refine Tm_suc (fun k => by rw [xE_5]) ?_
      refine Tm_ob (b_node (M := M) (P := P) (w := E.2.2.2.1) hB (by omega) hMm _) (fun r8 hr8 => ?_)
      exact Tm_some ⟨⟨_, hr8.2.1, hm, by omega⟩, ⟨_, hr8.1, by omega, Or.inr hMm⟩, FrM_tr hF hr8.2.2⟩
    have b2 : ∀ (ρ : MS) (m : Nat) (N : Nat → Int32), Bb m ρ → M ≤ m → m + 1 ≤ b.1 + (n + 1 - q) + 3 * (d + 2) → FrM M P E.2.2.2.1 σ ρ → Tm (fun k => x_GE k (d + 1) 5 2 N ρ) (Po T n E o M P (b.1 + (n + 1 - q) + 3 * (d + 2)) σ none) := fun ρ m N hB hMm hm hF => by
      refine Tm_suc (fun k => by rw [xE_5]) ?_
      refine Tm_ite (c := ρ.1 10 = 0) (fun z => absurd z hB.1) (fun _ => ?_)
      refine Tm_suc (fun k => by rw [xE_5]) ?_
      refine Tm_ite (c := N 1 = 1) (fun _ => b7 ρ m _ hB hMm hm hF) (fun _ => ?_)
      refine Tm_suc (fun k => by rw [xE_5]) ?_
      exact b7 ρ m _ hB hMm hm hF
    have b3 : ∀ (ρ : MS) (m : Nat) (N' : Nat → Int32), N' 3 = nI e → Bb m ρ → M ≤ m → m + 1 ≤ b.1 + (n + 1 - q) + 3 * (d + 2) → FrM M P E.2.2.2.1 σ ρ → Tm (fun k => x_GE k (d + 1) 5 3 N' ρ) (Po T n E o M P (b.1 + (n + 1 - q) + 3 * (d + 2)) σ none) := fun ρ m N' hN' hB hMm hm hF => by
      refine Tm_suc (fun k => by rw [xE_5]) ?_
      show Tm (fun k => if ¬ (N' 3 < 0 ∨ 70000 ≤ (N' 3).toNatClampNeg) then x_GE k (d + 1) 5 4 N' (mSet ρ 9 (N' 3).toNatClampNeg (N' 5)) else none) _
      rw [hN']
      refine Tm_chk (n_in (by omega) (by omega)) ?_
      rw [n_cl (p := e) (by omega)]
      refine Tm_suc (fun k => by rw [xE_5]) ?_
      exact b2 (mSet ρ 9 e (N' 5)) m _ (Bb_set hB) hMm hm (FrM_tr hF (FrM_set (by decide) (by decide) (Or.inr e1) _))
    refine Tm_suc (fun k => by rw [xE_5]) ?_
    refine Tm_ite (c := σ.1 10 = 0) (fun _ => ?_) (fun z => absurd (PS_ok hS) z)
    refine Tm_ob (p_sign hS (s := 12) (by decide) (by decide) rfl) (fun r2 hr2 => ?_)
    obtain ⟨u, τ⟩ := r2
    obtain ⟨h3, hr2⟩ := hr2
    have h3 : τ = σ := h3
    subst h3
    refine Tm_ite (fun z => ?_) (fun z => ?_)
    · -- all are read
      rw [if_neg (fun y => hr2.mpr y z)] at hG
      cases hG
      have fin : ∀ (N' : Nat → Int32), N' 100 = (if g = 1 then 10 else 11) → N' 2 = nI i → N' 4 = nI c → Tm (fun k => x_GE k (d + 1) 5 7 N' τ) (Po T n E o M P (b.1 + (n + 1 - q) + 3 * (d + 2)) τ (some (q, v, 0, b.1, bNode b (if g = 1 then 10 else 11) 0 (nI i) (nI c), []))) := fun N' j1 j2 j4 => by
        refine Tm_suc (fun k => by rw [xE_5]) ?_
        refine Tm_ob (p_node (M := M) (P := P) (w := E.2.2.2.1) hS (by omega) hM _) (fun r8 hr8 => ?_)
        obtain ⟨hr81, hS8, hF8⟩ := hr8
        have w1 : (upd (upd (upd (upd (fun _ => (0 : Int32)) 1 (N' 100)) 2 0) 3 (N' 2)) 4 (N' 4)) 1 = (if g = 1 then 10 else 11) := by rw [upd_other (by decide), upd_other (by decide), upd_other (by decide), upd_same]; exact j1
        have w3 : (upd (upd (upd (upd (fun _ => (0 : Int32)) 1 (N' 100)) 2 0) 3 (N' 2)) 4 (N' 4)) 3 = nI i := by rw [upd_other (by decide), upd_same]; exact j2
        have w4 : (upd (upd (upd (upd (fun _ => (0 : Int32)) 1 (N' 100)) 2 0) 3 (N' 2)) 4 (N' 4)) 4 = nI c := by rw [upd_same]; exact j4
        rw [w1, w3, w4] at hS8
        exact Tm_some ⟨hS8, hr81, hF8⟩
      refine Tm_suc (fun k => by rw [xE_5]) ?_
      refine Tm_ite (c := N 1 = 1) (fun y => ?_) (fun y => ?_)
      · rw [hN1] at y
        have y : nI g = nI 1 := y
        rw [n_eq (by omega) (by omega)] at y
        exact fin _ (by rw [upd_same, if_pos y]) (by rw [upd_other (by decide)]; exact hN2) (by rw [upd_other (by decide)]; exact hN4)
      · rw [hN1] at y
        have y : ¬ nI g = nI 1 := y
        rw [n_eq (by omega) (by omega)] at y
        refine Tm_suc (fun k => by rw [xE_5]) ?_
        exact fin _ (by rw [upd_same, if_neg y]) (by rw [upd_other (by decide)]; exact hN2) (by rw [upd_other (by decide)]; exact hN4)
    have hK := hr2.mp z
    rw [if_pos hK] at hG
    have hu4 := hu.2.2.2 (by rw [hK]; decide)
    refine Tm_ob (p_take (M := M) (P := P) (w := E.2.2.2.1) hS _) (fun r4 hr4 => ?_)
    show Tm (fun k => ob (x_GE k d 3 0 (fun _ => 0) r4.2) _) _
    rcases gT_any hG with ⟨t4, rfl⟩ | ⟨t4, hG⟩
    · rcases hr4.2 with ⟨_, hB⟩ | ⟨z, _⟩
      · obtain ⟨d', hd'⟩ : ∃ d', d = d' + 7 := ⟨d - 7, by omega⟩
        refine Tm_ob (by rw [hd']; exact b_exp hB.1) (fun r7 hr7 => ?_)
        subst hr7
        refine Tm_ite (c := r4.2.1 10 = 0) (fun z => absurd z hB.1) (fun _ => ?_)
        exact b3 r4.2 _ _ (by rw [upd_other (by decide)]; exact hN3) hB hM (by omega) hr4.1
      · exact absurd t4 z
    rcases hr4.2 with ⟨z, _⟩ | ⟨_, hS4⟩
    · exact absurd z t4
    rcases gb_any hG with ⟨h7, rfl⟩ | ⟨s, h7, hG⟩
    · refine Tm_ob (H0 _ _ _ _ _ _ _ _ h7 r4.2 _ d M P hS4 h1 hM hP (by omega) (by omega) (by omega) trivial) (fun r7 hr7 => ?_)
      obtain ⟨⟨m1, hm, hmk, hMm⟩, _, hF7⟩ := hr7
      refine Tm_ite (c := r7.2.1 10 = 0) (fun z => absurd z hm.1) (fun _ => ?_)
      exact b3 r7.2 m1 _ (by rw [upd_other (by decide)]; exact hN3) hm hMm (by omega) (FrM_tr hr4.1 hF7)
    obtain ⟨⟨a1, a2, a3, a4, a5, a6, a7, a8⟩, a9⟩ := mo_of (M := M) hu.2.1 hv h7 hM h1 trivial (fun h => h) (fun h => h)
    refine Tm_ob (H0 _ _ _ _ _ _ _ _ h7 r4.2 _ d M P hS4 h1 hM hP (by omega) (by omega) (by omega) trivial) (fun r7 hr7 => ?_)
    obtain ⟨hS7, hr71, hF7⟩ := hr7
    have hF7 : FrM M P E.2.2.2.1 τ r7.2 := FrM_tr hr4.1 hF7
    have hv7 := PS_v hS7
    have hws := tkN_b T n s.1 a2
    refine Tm_ite (c := r7.2.1 10 = 0) (fun _ => ?_) (fun z => absurd (PS_ok hS7) z)
    -- one more member
    have more : ¬ (c = 1 ∧ tkK T n s.1 = 16) → Tm (fun k => x_GE k (d + 1) 5 3 (upd N 5 r7.1) r7.2) (Po T n E o M P (b.1 + (n + 1 - q) + 3 * (d + 2)) τ y) := fun hno => by
      rw [if_neg hno] at hG
      refine Tm_suc (fun k => by rw [xE_5]) ?_
      have j3 : upd N 5 r7.1 3 = nI e := by rw [upd_other (by decide)]; exact hN3
      have j5 : upd N 5 r7.1 5 = nI s.2.2.2.1 := by rw [upd_same]; exact hr71
      have j1 : upd N 5 r7.1 1 = nI g := by rw [upd_other (by decide)]; exact hN1
      have j2 : upd N 5 r7.1 2 = nI i := by rw [upd_other (by decide)]; exact hN2
      have j4 : upd N 5 r7.1 4 = nI c := by rw [upd_other (by decide)]; exact hN4
      generalize upd N 5 r7.1 = N5 at j1 j2 j3 j4 j5
      show Tm (fun k => if ¬ (N5 3 < 0 ∨ 70000 ≤ (N5 3).toNatClampNeg) then x_GE k (d + 1) 5 4 N5 (mSet r7.2 9 (N5 3).toNatClampNeg (N5 5)) else none) _
      rw [j3, j5]
      refine Tm_chk (n_in (by omega) (by omega)) ?_
      rw [n_cl (p := e) (by omega)]
      refine Tm_suc (fun k => by rw [xE_5]) ?_
      have hF8 : FrM M P E.2.2.2.1 τ (mSet r7.2 9 e (nI s.2.2.2.1)) := FrM_tr hF7 (FrM_set (by decide) (by decide) (Or.inr e1) _)
      refine Tm_mono (ih _ _ _ _ _ _ _ y hG (mSet r7.2 9 e (nI s.2.2.2.1)) _ (PS_set hS7 (by decide) (by decide) _) h1 (by rw [bSet_1]; omega) (by rw [bSet_p]; omega) (by rw [bSet_1]; omega) (by rw [bSet_p]; omega) hdd (by omega) (by omega) hg ?_ ?_ ?_ ?_ i1 (by rw [bSet_1]; omega) a9.1 (by rw [bSet_1]; exact a9.2)) (fun r hr => Po_tr hF8 (by rw [bSet_1]; omega) hr)
      · rw [upd_other (by decide), upd_other (by decide)]; exact j1
      · rw [upd_other (by decide), upd_other (by decide)]; exact j2
      · rw [upd_other (by decide), upd_same]; exact j5
      · rw [upd_same, j4, n_add1]
    refine Tm_ite (c := N 4 = 1) (fun y4 => ?_) (fun y4 => more (fun z => y4 (by rw [hN4, z.1]; rfl)))
    rw [hN4] at y4
    have y4 : nI c = nI 1 := y4
    rw [n_eq (by omega) (by omega)] at y4
    refine Tm_ob (p_sign hS7 (s := 16) (by decide) (by decide) rfl) (fun r8 hr8 => ?_)
    obtain ⟨u, τ'⟩ := r8
    obtain ⟨h3, hr8⟩ := hr8
    have h3 : τ' = r7.2 := h3
    subst h3
    refine Tm_ite (fun z => more (fun y => hr8.mpr y.2 z)) (fun z => ?_)
    have hK16 := hr8.mp z
    rw [if_pos ⟨y4, hK16⟩] at hG
    have hws4 := hws.2.2.2 (by rw [hK16]; decide)
    refine Tm_ob (p_take (M := M) (P := P) (w := E.2.2.2.1) hS7 _) (fun ra hra => ?_)
    show Tm (fun k => ob (x_GE k d 3 0 (fun _ => 0) ra.2) _) _
    rcases gT_any hG with ⟨t5, rfl⟩ | ⟨t5, hG⟩
    · rcases hra.2 with ⟨_, hB⟩ | ⟨z, _⟩
      · obtain ⟨d', hd'⟩ : ∃ d', d = d' + 7 := ⟨d - 7, by omega⟩
        refine Tm_ob (by rw [hd']; exact b_exp hB.1) (fun rx hrx => ?_)
        subst hrx
        refine Tm_ob (b_wrapped (M := M) (P := P) (w := E.2.2.2.1) hB (by omega) (by omega) _) (fun r8 hr8 => ?_)
        exact Tm_some ⟨⟨_, hr8.2.1, by omega, by omega⟩, ⟨_, hr8.1, by omega, Or.inr (by omega)⟩, FrM_tr hF7 (FrM_tr hra.1 hr8.2.2)⟩
      · exact absurd t5 z
    rcases hra.2 with ⟨z, _⟩ | ⟨_, hSa⟩
    · exact absurd z t5
    rcases gb_any hG with ⟨h9, rfl⟩ | ⟨s9, h9, hG⟩
    · refine Tm_ob (H0 _ _ _ _ _ _ _ _ h9 ra.2 _ d M P hSa h1 (by omega) (by omega) (by omega) (by omega) (by omega) trivial) (fun rx hrx => ?_)
      obtain ⟨⟨m1, hm, hmk, hMm⟩, _, hFx⟩ := hrx
      refine Tm_ob (b_wrapped (M := M) (P := P) (w := E.2.2.2.1) hm (by omega) hMm _) (fun r8 hr8 => ?_)
      exact Tm_some ⟨⟨_, hr8.2.1, by omega, by omega⟩, ⟨_, hr8.1, by omega, Or.inr hMm⟩, FrM_tr hF7 (FrM_tr hra.1 (FrM_tr hFx hr8.2.2))⟩
    obtain ⟨⟨f1, f2, f3, f4, f5, f6, f7, f8⟩, f9⟩ := mo_of (M := M) hws.2.1 hv7 h9 (by omega) h1 trivial (fun h => h) (fun h => h)
    refine Tm_ob (H0 _ _ _ _ _ _ _ _ h9 ra.2 _ d M P hSa h1 (by omega) (by omega) (by omega) (by omega) (by omega) trivial) (fun rx hrx => ?_)
    obtain ⟨hSx, hrx1, hFx⟩ := hrx
    refine Tm_ob (p_wrapped (M := M) (P := P) (w := E.2.2.2.1) hSx (by omega) (by omega) _) (fun r8 hr8 => ?_)
    obtain ⟨hr81, hS8, hF8⟩ := hr8
    cases hG
    refine Tm_some ⟨?_, hr81, FrM_tr hF7 (FrM_tr hra.1 (FrM_tr hFx hF8))⟩
    have w2 : (upd (upd (upd (upd (upd (fun _ => (0 : Int32)) 1 12) 2 (N 1)) 3 (N 2)) 4 r7.1) 5 rx.1) 2 = nI g := by rw [upd_other (by decide), upd_other (by decide), upd_other (by decide), upd_same]; exact hN1
    have w3 : (upd (upd (upd (upd (upd (fun _ => (0 : Int32)) 1 12) 2 (N 1)) 3 (N 2)) 4 r7.1) 5 rx.1) 3 = nI i := by rw [upd_other (by decide), upd_other (by decide), upd_same]; exact hN2
    have w4 : (upd (upd (upd (upd (upd (fun _ => (0 : Int32)) 1 12) 2 (N 1)) 3 (N 2)) 4 r7.1) 5 rx.1) 4 = nI s.2.2.2.1 := by rw [upd_other (by decide), upd_same]; exact hr71
    have w5 : (upd (upd (upd (upd (upd (fun _ => (0 : Int32)) 1 12) 2 (N 1)) 3 (N 2)) 4 r7.1) 5 rx.1) 5 = nI s9.2.2.2.1 := by rw [upd_same]; exact hrx1
    rw [w2, w3, w4, w5] at hS8
    exact hS8
/-- members, or a span: what stands between the brackets -/
def gLs (T : Nat → Int32) (n f : Nat) (E : En) (o q v g : Nat) (b : BT) : RG := gb (G T n f 0 E o q v 0 0 0 0 b) (fun r =>
  if tkK T n r.1 = 16 then gT T n r.1 (fun q2 => gb (G T n f 0 E o q2 r.2.1 0 0 0 0 r.2.2.2.2.1) (fun s => some (some (s.1, s.2.1, 0, s.2.2.2.2.1.1, bWrap s.2.2.2.2.1 12 (nI g) (nI r.2.2.2.1) (-1) (nI s.2.2.2.1), []))))
  else G T n f 15 E o r.1 r.2.1 r.2.2.2.1 r.2.2.2.1 1 g r.2.2.2.2.1)
theorem m_listed {f q v g : Nat} {b : BT} {y : Option RT} {σ : MS} {L : Nat → Int32} (H : ∀ f', f' ≤ f → S0 T n f') (hG : gLs T n f E o q v g b = some y) (hS : PS T n E o q v b σ) (h1 : 1 ≤ M) (hM : M ≤ b.1) (hP : P ≤ b.2.1) (hn : b.1 + (n + 1 - q) + 3 * (d + 3) ≤ 70000) (hp : b.2.1 + (n - q) ≤ 70000) (hdd : 12 * (21 - o) + 11 ≤ d) (hg : g ≤ 1) (hL : L 1 = nI g) : Tm (fun k => x_GE k (d + 1) 5 0 L σ) (Po T n E o M P (b.1 + (n + 1 - q) + 3 * (d + 2)) σ y) := by
  have hq := PS_q hS
  have hv := PS_v hS
  have H0 := H f (Nat.le_refl _)
  unfold gLs at hG
  refine Tm_suc (fun k => by rw [xE_5]) ?_
  show Tm (fun k => ob (x_GE k d 3 0 (fun _ => 0) σ) _) _
  rcases gb_any hG with ⟨h7, rfl⟩ | ⟨s, h7, hG⟩
  · refine Tm_ob (H0 _ _ _ _ _ _ _ _ h7 σ _ d M P hS h1 hM hP (by omega) hp (by omega) trivial) (fun r7 hr7 => ?_)
    obtain ⟨⟨m1, hm, hmk, hMm⟩, _, hF7⟩ := hr7
    refine Tm_ite (c := r7.2.1 10 = 0) (fun z => absurd z hm.1) (fun _ => ?_)
    refine Tm_suc (fun k => by rw [xE_5]) ?_
    show Tm (fun k => x_GE k (d + 1) 5 2 (upd (upd (upd L 2 r7.1) 3 (upd L 2 r7.1 2)) 4 1) r7.2) _
    refine Tm_suc (fun k => by rw [xE_5]) ?_
    refine Tm_ite (c := r7.2.1 10 = 0) (fun z => absurd z hm.1) (fun _ => ?_)
    have b7 : ∀ (N : Nat → Int32), Tm (fun k => x_GE k (d + 1) 5 7 N r7.2) (Po T n E o M P (b.1 + (n + 1 - q) + 3 * (d + 2)) σ none) := fun N => by
      refine Tm_suc (fun k => by rw [xE_5]) ?_
      refine Tm_ob (b_node (M := M) (P := P) (w := E.2.2.2.1) hm (by omega) hMm _) (fun r8 hr8 => ?_)
      exact Tm_some ⟨⟨_, hr8.2.1, by omega, by omega⟩, ⟨_, hr8.1, by omega, Or.inr hMm⟩, FrM_tr hF7 hr8.2.2⟩
    refine Tm_suc (fun k => by rw [xE_5]) ?_
    refine Tm_ite (fun _ => b7 _) (fun _ => ?_)
    refine Tm_suc (fun k => by rw [xE_5]) ?_
    exact b7 _
  obtain ⟨⟨a1, a2, a3, a4, a5, a6, a7, a8⟩, a9⟩ := mo_of (M := M) hq.1 hv h7 hM h1 trivial (fun h => h) (fun h => h)
  have a9' := (mo_of (M := b.1) hq.1 hv h7 (Nat.le_refl _) (by omega) trivial (fun h => h) (fun h => h)).2
  refine Tm_ob (H0 _ _ _ _ _ _ _ _ h7 σ _ d M P hS h1 hM hP (by omega) hp (by omega) trivial) (fun r7 hr7 => ?_)
  obtain ⟨hS7, hr71, hF7⟩ := hr7
  have hv7 := PS_v hS7
  have hws := tkN_b T n s.1 a2
  refine Tm_ite (c := r7.2.1 10 = 0) (fun _ => ?_) (fun z => absurd (PS_ok hS7) z)
  refine Tm_ob (p_sign hS7 (s := 16) (by decide) (by decide) rfl) (fun r3 hr3 => ?_)
  obtain ⟨u, τ⟩ := r3
  obtain ⟨h3, hr3⟩ := hr3
  have h3 : τ = r7.2 := h3
  subst h3
  refine Tm_ite (fun z => ?_) (fun z => ?_)
  · rw [if_neg (fun y => hr3.mpr y z)] at hG
    refine Tm_suc (fun k => by rw [xE_5]) ?_
    refine Tm_mono (list_loop (M := M) (P := P) (d := d) f (fun f' hf' => H f' (by omega)) _ _ _ _ _ _ _ y hG r7.2 _ hS7 h1 (by omega) (by omega) (by omega) (by omega) hdd (by omega) (Nat.le_refl _) hg ?_ ?_ ?_ ?_ a9.1 a9.2 a9.1 a9.2) (fun r hr => Po_tr hF7 (by omega) hr)
    · rw [upd_other (by decide), upd_other (by decide), upd_other (by decide)]; exact hL
    · rw [upd_other (by decide), upd_other (by decide), upd_same]; exact hr71
    · rw [upd_other (by decide), upd_same, upd_same]; exact hr71
    · rw [upd_same]; rfl
  have hK16 := hr3.mp z
  rw [if_pos hK16] at hG
  have hws4 := hws.2.2.2 (by rw [hK16]; decide)
  refine Tm_ob (p_take (M := M) (P := P) (w := E.2.2.2.1) hS7 _) (fun ra hra => ?_)
  show Tm (fun k => ob (x_GE k d 3 0 (fun _ => 0) ra.2) _) _
  rcases gT_any hG with ⟨t5, rfl⟩ | ⟨t5, hG⟩
  · rcases hra.2 with ⟨_, hB⟩ | ⟨z, _⟩
    · obtain ⟨d', hd'⟩ : ∃ d', d = d' + 7 := ⟨d - 7, by omega⟩
      refine Tm_ob (by rw [hd']; exact b_exp hB.1) (fun rx hrx => ?_)
      subst hrx
      refine Tm_ob (b_wrapped (M := M) (P := P) (w := E.2.2.2.1) hB (by omega) (by omega) _) (fun r8 hr8 => ?_)
      exact Tm_some ⟨⟨_, hr8.2.1, by omega, by omega⟩, ⟨_, hr8.1, by omega, Or.inr (by omega)⟩, FrM_tr hF7 (FrM_tr hra.1 hr8.2.2)⟩
    · exact absurd t5 z
  rcases hra.2 with ⟨z, _⟩ | ⟨_, hSa⟩
  · exact absurd z t5
  rcases gb_any hG with ⟨h9, rfl⟩ | ⟨s9, h9, hG⟩
  · refine Tm_ob (H0 _ _ _ _ _ _ _ _ h9 ra.2 _ d M P hSa h1 (by omega) (by omega) (by omega) (by omega) (by omega) trivial) (fun rx hrx => ?_)
    obtain ⟨⟨m1, hm, hmk, hMm⟩, _, hFx⟩ := hrx
    refine Tm_ob (b_wrapped (M := M) (P := P) (w := E.2.2.2.1) hm (by omega) hMm _) (fun r8 hr8 => ?_)
    exact Tm_some ⟨⟨_, hr8.2.1, by omega, by omega⟩, ⟨_, hr8.1, by omega, Or.inr hMm⟩, FrM_tr hF7 (FrM_tr hra.1 (FrM_tr hFx hr8.2.2))⟩
  obtain ⟨⟨f1, f2, f3, f4, f5, f6, f7, f8⟩, f9⟩ := mo_of (M := M) hws.2.1 hv7 h9 (by omega) h1 trivial (fun h => h) (fun h => h)
  refine Tm_ob (H0 _ _ _ _ _ _ _ _ h9 ra.2 _ d M P hSa h1 (by omega) (by omega) (by omega) (by omega) (by omega) trivial) (fun rx hrx => ?_)
  obtain ⟨hSx, hrx1, hFx⟩ := hrx
  refine Tm_ob (p_wrapped (M := M) (P := P) (w := E.2.2.2.1) hSx (by omega) (by omega) _) (fun r8 hr8 => ?_)
  obtain ⟨hr81, hS8, hF8⟩ := hr8
  cases hG
  refine Tm_some ⟨?_, hr81, FrM_tr hF7 (FrM_tr hra.1 (FrM_tr hFx hF8))⟩
  have w2 : (upd (upd (upd (upd (upd (fun _ => (0 : Int32)) 1 12) 2 (L 1)) 3 r7.1) 4 (-1)) 5 rx.1) 2 = nI g := by rw [upd_other (by decide), upd_other (by decide), upd_other (by decide), upd_same]; exact hL
  have w3 : (upd (upd (upd (upd (upd (fun _ => (0 : Int32)) 1 12) 2 (L 1)) 3 r7.1) 4 (-1)) 5 rx.1) 3 = nI s.2.2.2.1 := by rw [upd_other (by decide), upd_other (by decide), upd_same]; exact hr71
  have w5 : (upd (upd (upd (upd (upd (fun _ => (0 : Int32)) 1 12) 2 (L 1)) 3 r7.1) 4 (-1)) 5 rx.1) 5 = nI s9.2.2.2.1 := by rw [upd_same]; exact hrx1
  rw [w2, w3, w5] at hS8
  exact hS8
end LISTED
