section JnS43
variable {yf : Nat × Nat}
/-! Members in brackets. -/
section LISTED
variable {T : Nat → Int32} {n o M P d : Nat} {E : En}
/-- from the comma on -/
theorem list_loop : ∀ (f : Nat), (∀ f', f' < f → S0 T n f') → ∀ (q v i e c g : Nat) (b : BT) (y : Fl RT), G T n f 15 E o q v i e c g b = some y → ∀ (σ : MS) (N : Nat → Int32), PS T n E o q v b σ → 1 ≤ M → M ≤ b.1 → P ≤ b.2.1 → b.1 + (n + 1 - q) + 3 * (d + 3) ≤ 70000 → b.2.1 + (n - q) ≤ 70000 → 12 * (21 - o) + 11 ≤ d → c ≤ q → 1 ≤ c → g ≤ 1 → N 1 = nI g → N 2 = nI i → N 3 = nI e → N 4 = nI c → M ≤ i → i < b.1 → M ≤ e → e < b.1 → Tm (fun k => x_GE k (d + 1) 5 2 N σ) (Po T n E o M P (b.1 + (n + 1 - q) + 3 * (d + 2)) σ y)
  | 0 => fun _ q v i e c g b y hG => by simp only [G] at hG; cases hG
  | f + 1 => fun H q v i e c g b y hG σ N hS h1 hM hP hn hp hdd hcq hc1 hg hN1 hN2 hN3 hN4 i1 i2 e1 e2 => by
    rw [G_15] at hG
    have hq := PS_q hS
    have hv := PS_v hS
    have hu := tkN_b T n q hq.1
    have ih := list_loop f (fun f' hf' => H f' (by omega))
    have H0 := H f (by omega)
    -- the end, behind a fault
    have b7 : ∀ {yf : Nat × Nat} (ρ : MS) (m : Nat) (N : Nat → Int32), Bb yf m ρ → M ≤ m → m + 1 ≤ b.1 + (n + 1 - q) + 3 * (d + 2) → FrM M P E.2.2.2.1 σ ρ → Tm (fun k => x_GE k (d + 1) 5 7 N ρ) (Po T n E o M P (b.1 + (n + 1 - q) + 3 * (d + 2)) σ (Sum.inl yf)) := fun {yf} ρ m N hB hMm hm hF => by
      refine Tm_suc (fun k => by rw [xE_5]) ?_
      refine Tm_ob (b_node (M := M) (P := P) (w := E.2.2.2.1) hB (by omega) hMm _) (fun r8 hr8 => ?_)
      exact Tm_some ⟨⟨_, hr8.2.1, hm, by omega⟩, ⟨_, hr8.1, by omega, Or.inr hMm⟩, FrM_tr hF hr8.2.2⟩
    have b2 : ∀ {yf : Nat × Nat} (ρ : MS) (m : Nat) (N : Nat → Int32), Bb yf m ρ → M ≤ m → m + 1 ≤ b.1 + (n + 1 - q) + 3 * (d + 2) → FrM M P E.2.2.2.1 σ ρ → Tm (fun k => x_GE k (d + 1) 5 2 N ρ) (Po T n E o M P (b.1 + (n + 1 - q) + 3 * (d + 2)) σ (Sum.inl yf)) := fun {yf} ρ m N hB hMm hm hF => by
      refine Tm_suc (fun k => by rw [xE_5]) ?_
      refine Tm_ite (c := ρ.1 10 = 0) (fun z => absurd z hB.1) (fun _ => ?_)
      refine Tm_suc (fun k => by rw [xE_5]) ?_
      refine Tm_ite (c := N 1 = 1) (fun _ => b7 ρ m _ hB hMm hm hF) (fun _ => ?_)
      refine Tm_suc (fun k => by rw [xE_5]) ?_
      exact b7 ρ m _ hB hMm hm hF
    have b3 : ∀ {yf : Nat × Nat} (ρ : MS) (m : Nat) (N' : Nat → Int32), N' 3 = nI e → Bb yf m ρ → M ≤ m → m + 1 ≤ b.1 + (n + 1 - q) + 3 * (d + 2) → FrM M P E.2.2.2.1 σ ρ → Tm (fun k => x_GE k (d + 1) 5 3 N' ρ) (Po T n E o M P (b.1 + (n + 1 - q) + 3 * (d + 2)) σ (Sum.inl yf)) := fun {yf} ρ m N' hN' hB hMm hm hF => by
      refine Tm_suc (fun k => by rw [xE_5]) ?_
      show Tm (fun k => if ¬ (N' 3 < 0 ∨ 70000 ≤ (N' 3).toNatClampNeg) then x_GE k (d + 1) 5 4 N' (mSet ρ 9 (N' 3).toNatClampNeg (N' 5)) else none) _
      rw [hN']
      refine Tm_chk (n_in (by omega) (by omega)) ?_
      rw [n_cl (p := e) (by omega)]
      refine Tm_suc (fun k => by rw [xE_5]) ?_
      exact b2 (mSet ρ 9 e (N' 5)) m _ (Bb_set hB) hMm hm (FrM_tr hF (FrM_set (by decide) (by decide) (Or.inr e1) _))
    refine Tm_suc (fun k => by rw [xE_5]) ?_
    refine Tm_ite (c := σ.1 10 = 0) (fun _ => ?_) (fun z => absurd (PS_ok hS) z)
    refine Tm_ob (p_sign hS (s := 12) (by decide) (by decide) rfl) (fun r2 hr2 => ?_)
    obtain ⟨u, τ⟩ := r2
    obtain ⟨h3, hr2⟩ := hr2
    have h3 : τ = σ := h3
    subst h3
    refine Tm_ite (fun z => ?_) (fun z => ?_)
    · -- all are read
      rw [if_neg (fun y => hr2.mpr y z)] at hG
      cases hG
      have fin : ∀ (N' : Nat → Int32), N' 100 = (if g = 1 then 10 else 11) → N' 2 = nI i → N' 4 = nI c → Tm (fun k => x_GE k (d + 1) 5 7 N' τ) (Po T n E o M P (b.1 + (n + 1 - q) + 3 * (d + 2)) τ (Sum.inr (q, v, 0, b.1, bNode b (if g = 1 then 10 else 11) 0 (nI i) (nI c), []))) := fun N' j1 j2 j4 => by
        refine Tm_suc (fun k => by rw [xE_5]) ?_
        refine Tm_ob (p_node (M := M) (P := P) (w := E.2.2.2.1) hS (by omega) hM _) (fun r8 hr8 => ?_)
        obtain ⟨hr81, hS8, hF8⟩ := hr8
        have w1 : (upd (upd (upd (upd (fun _ => (0 : Int32)) 1 (N' 100)) 2 0) 3 (N' 2)) 4 (N' 4)) 1 = (if g = 1 then 10 else 11) := by rw [upd_other (by decide), upd_other (by decide), upd_other (by decide), upd_same]; exact j1
        have w3 : (upd (upd (upd (upd (fun _ => (0 : Int32)) 1 (N' 100)) 2 0) 3 (N' 2)) 4 (N' 4)) 3 = nI i := by rw [upd_other (by decide), upd_same]; exact j2
        have w4 : (upd (upd (upd (upd (fun _ => (0 : Int32)) 1 (N' 100)) 2 0) 3 (N' 2)) 4 (N' 4)) 4 = nI c := by rw [upd_same]; exact j4
        rw [w1, w3, w4] at hS8
        exact Tm_some ⟨hS8, hr81, hF8⟩
      refine Tm_suc (fun k => by rw [xE_5]) ?_
      refine Tm_ite (c := N 1 = 1) (fun y => ?_) (fun y => ?_)
      · rw [hN1] at y
        have y : nI g = nI 1 := y
        rw [n_eq (by omega) (by omega)] at y
        exact fin _ (by rw [upd_same, if_pos y]) (by rw [upd_other (by decide)]; exact hN2) (by rw [upd_other (by decide)]; exact hN4)
      · rw [hN1] at y
        have y : ¬ nI g = nI 1 := y
        rw [n_eq (by omega) (by omega)] at y
        refine Tm_suc (fun k => by rw [xE_5]) ?_
        exact fin _ (by rw [upd_same, if_neg y]) (by rw [upd_other (by decide)]; exact hN2) (by rw [upd_other (by decide)]; exact hN4)
    have hK := hr2.mp z
    rw [if_pos hK] at hG
    have hu4 := hu.2.2.2 (by rw [hK]; decide)
    refine Tm_ob (p_take (M := M) (P := P) (w := E.2.2.2.1) hS _) (fun r4 hr4 => ?_)
    show Tm (fun k => ob (x_GE k d 3 0 (fun _ => 0) r4.2) _) _
    rcases gT_any hG with ⟨t4, rfl⟩ | ⟨t4, hG⟩
    · rcases hr4.2 with ⟨_, hB⟩ | ⟨z, _⟩
      · obtain ⟨d', hd'⟩ : ∃ d', d = d' + 7 := ⟨d - 7, by omega⟩
        refine Tm_ob (by rw [hd']; exact b_exp hB.1) (fun r7 hr7 => ?_)
        subst hr7
        refine Tm_ite (c := r4.2.1 10 = 0) (fun z => absurd z hB.1) (fun _ => ?_)
        exact b3 r4.2 _ _ (by rw [upd_other (by decide)]; exact hN3) hB hM (by omega) hr4.1
      · exact absurd t4 z
    rcases hr4.2 with ⟨z, _⟩ | ⟨_, hS4⟩
    · exact absurd z t4
    rcases gb_any hG with ⟨yf, h7, rfl⟩ | ⟨s, h7, hG⟩
    · refine Tm_ob (H0 _ _ _ _ _ _ _ _ h7 r4.2 _ d M P hS4 h1 hM hP (by omega) (by omega) (by omega) trivial) (fun r7 hr7 => ?_)
      obtain ⟨⟨m1, hm, hmk, hMm⟩, _, hF7⟩ := hr7
      refine Tm_ite (c := r7.2.1 10 = 0) (fun z => absurd z hm.1) (fun _ => ?_)
      exact b3 r7.2 m1 _ (by rw [upd_other (by decide)]; exact hN3) hm hMm (by omega) (FrM_tr hr4.1 hF7)
    obtain ⟨⟨a1, a2, a3, a4, a5, a6, a7, a8⟩, a9⟩ := mo_of (M := M) hu.2.1 hv h7 hM h1 trivial (fun h => h) (fun h => h)
    refine Tm_ob (H0 _ _ _ _ _ _ _ _ h7 r4.2 _ d M P hS4 h1 hM hP (by omega) (by omega) (by omega) trivial) (fun r7 hr7 => ?_)
    obtain ⟨hS7, hr71, hF7⟩ := hr7
    have hF7 : FrM M P E.2.2.2.1 τ r7.2 := FrM_tr hr4.1 hF7
    have hv7 := PS_v hS7
    have hws := tkN_b T n s.1 a2
    refine Tm_ite (c := r7.2.1 10 = 0) (fun _ => ?_) (fun z => absurd (PS_ok hS7) z)
    -- one more member
    have more : ¬ (c = 1 ∧ tkK T n s.1 = 16) → Tm (fun k => x_GE k (d + 1) 5 3 (upd N 5 r7.1) r7.2) (Po T n E o M P (b.1 + (n + 1 - q) + 3 * (d + 2)) τ y) := fun hno => by
      rw [if_neg hno] at hG
      refine Tm_suc (fun k => by rw [xE_5]) ?_
      have j3 : upd N 5 r7.1 3 = nI e := by rw [upd_other (by decide)]; exact hN3
      have j5 : upd N 5 r7.1 5 = nI s.2.2.2.1 := by rw [upd_same]; exact hr71
      have j1 : upd N 5 r7.1 1 = nI g := by rw [upd_other (by decide)]; exact hN1
      have j2 : upd N 5 r7.1 2 = nI i := by rw [upd_other (by decide)]; exact hN2
      have j4 : upd N 5 r7.1 4 = nI c := by rw [upd_other (by decide)]; exact hN4
      generalize upd N 5 r7.1 = N5 at j1 j2 j3 j4 j5
      show Tm (fun k => if ¬ (N5 3 < 0 ∨ 70000 ≤ (N5 3).toNatClampNeg) then x_GE k (d + 1) 5 4 N5 (mSet r7.2 9 (N5 3).toNatClampNeg (N5 5)) else none) _
      rw [j3, j5]
      refine Tm_chk (n_in (by omega) (by omega)) ?_
      rw [n_cl (p := e) (by omega)]
      refine Tm_suc (fun k => by rw [xE_5]) ?_
      have hF8 : FrM M P E.2.2.2.1 τ (mSet r7.2 9 e (nI s.2.2.2.1)) := FrM_tr hF7 (FrM_set (by decide) (by decide) (Or.inr e1) _)
      refine Tm_mono (ih _ _ _ _ _ _ _ y hG (mSet r7.2 9 e (nI s.2.2.2.1)) _ (PS_set hS7 (by decide) (by decide) _) h1 (by rw [bSet_1]; omega) (by rw [bSet_p]; omega) (by rw [bSet_1]; omega) (by rw [bSet_p]; omega) hdd (by omega) (by omega) hg ?_ ?_ ?_ ?_ i1 (by rw [bSet_1]; omega) a9.1 (by rw [bSet_1]; exact a9.2)) (fun r hr => Po_tr hF8 (by rw [bSet_1]; omega) hr)
      · rw [upd_other (by decide), upd_other (by decide)]; exact j1
      · rw [upd_other (by decide), upd_other (by decide)]; exact j2
      · rw [upd_other (by decide), upd_same]; exact j5
      · rw [upd_same, j4, n_add1]
    refine Tm_ite (c := N 4 = 1) (fun y4 => ?_) (fun y4 => more (fun z => y4 (by rw [hN4, z.1]; rfl)))
    rw [hN4] at y4
    have y4 : nI c = nI 1 := y4
    rw [n_eq (by omega) (by omega)] at y4
    refine Tm_ob (p_sign hS7 (s := 16) (by decide) (by decide) rfl) (fun r8 hr8 => ?_)
    obtain ⟨u, τ'⟩ := r8
    obtain ⟨h3, hr8⟩ := hr8
    have h3 : τ' = r7.2 := h3
    subst h3
    refine Tm_ite (fun z => more (fun y => hr8.mpr y.2 z)) (fun z => ?_)
    have hK16 := hr8.mp z
    rw [if_pos ⟨y4, hK16⟩] at hG
    have hws4 := hws.2.2.2 (by rw [hK16]; decide)
    refine Tm_ob (p_take (M := M) (P := P) (w := E.2.2.2.1) hS7 _) (fun ra hra => ?_)
    show Tm (fun k => ob (x_GE k d 3 0 (fun _ => 0) ra.2) _) _
    rcases gT_any hG with ⟨t5, rfl⟩ | ⟨t5, hG⟩
    · rcases hra.2 with ⟨_, hB⟩ | ⟨z, _⟩
      · obtain ⟨d', hd'⟩ : ∃ d', d = d' + 7 := ⟨d - 7, by omega⟩
        refine Tm_ob (by rw [hd']; exact b_exp hB.1) (fun rx hrx => ?_)
        subst hrx
        refine Tm_ob (b_wrapped (M := M) (P := P) (w := E.2.2.2.1) hB (by omega) (by omega) _) (fun r8 hr8 => ?_)
        exact Tm_some ⟨⟨_, hr8.2.1, by omega, by omega⟩, ⟨_, hr8.1, by omega, Or.inr (by omega)⟩, FrM_tr hF7 (FrM_tr hra.1 hr8.2.2)⟩
      · exact absurd t5 z
    rcases hra.2 with ⟨z, _⟩ | ⟨_, hSa⟩
    · exact absurd z t5
    rcases gb_any hG with ⟨yf, h9, rfl⟩ | ⟨s9, h9, hG⟩
    · refine Tm_ob (H0 _ _ _ _ _ _ _ _ h9 ra.2 _ d M P hSa h1 (by omega) (by omega) (by omega) (by omega) (by omega) trivial) (fun rx hrx => ?_)
      obtain ⟨⟨m1, hm, hmk, hMm⟩, _, hFx⟩ := hrx
      refine Tm_ob (b_wrapped (M := M) (P := P) (w := E.2.2.2.1) hm (by omega) hMm _) (fun r8 hr8 => ?_)
      exact Tm_some ⟨⟨_, hr8.2.1, by omega, by omega⟩, ⟨_, hr8.1, by omega, Or.inr hMm⟩, FrM_tr hF7 (FrM_tr hra.1 (FrM_tr hFx hr8.2.2))⟩
    obtain ⟨⟨f1, f2, f3, f4, f5, f6, f7, f8⟩, f9⟩ := mo_of (M := M) hws.2.1 hv7 h9 (by omega) h1 trivial (fun h => h) (fun h => h)
    refine Tm_ob (H0 _ _ _ _ _ _ _ _ h9 ra.2 _ d M P hSa h1 (by omega) (by omega) (by omega) (by omega) (by omega) trivial) (fun rx hrx => ?_)
    obtain ⟨hSx, hrx1, hFx⟩ := hrx
    refine Tm_ob (p_wrapped (M := M) (P := P) (w := E.2.2.2.1) hSx (by omega) (by omega) _) (fun r8 hr8 => ?_)
    obtain ⟨hr81, hS8, hF8⟩ := hr8
    cases hG
    refine Tm_some ⟨?_, hr81, FrM_tr hF7 (FrM_tr hra.1 (FrM_tr hFx hF8))⟩
    have w2 : (upd (upd (upd (upd (upd (fun _ => (0 : Int32)) 1 12) 2 (N 1)) 3 (N 2)) 4 r7.1) 5 rx.1) 2 = nI g := by rw [upd_other (by decide), upd_other (by decide), upd_other (by decide), upd_same]; exact hN1
    have w3 : (upd (upd (upd (upd (upd (fun _ => (0 : Int32)) 1 12) 2 (N 1)) 3 (N 2)) 4 r7.1) 5 rx.1) 3 = nI i := by rw [upd_other (by decide), upd_other (by decide), upd_same]; exact hN2
    have w4 : (upd (upd (upd (upd (upd (fun _ => (0 : Int32)) 1 12) 2 (N 1)) 3 (N 2)) 4 r7.1) 5 rx.1) 4 = nI s.2.2.2.1 := by rw [upd_other (by decide), upd_same]; exact hr71
    have w5 : (upd (upd (upd (upd (upd (fun _ => (0 : Int32)) 1 12) 2 (N 1)) 3 (N 2)) 4 r7.1) 5 rx.1) 5 = nI s9.2.2.2.1 := by rw [upd_same]; exact hrx1
    rw [w2, w3, w4, w5] at hS8
    exact hS8
/-- members, or a span: what stands between the brackets -/
def gLs (T : Nat → Int32) (n f : Nat) (E : En) (o q v g : Nat) (b : BT) : RG := gb (G T n f 0 E o q v 0 0 0 0 b) (fun r =>
  if tkK T n r.1 = 16 then gT T n r.1 (fun q2 => gb (G T n f 0 E o q2 r.2.1 0 0 0 0 r.2.2.2.2.1) (fun s => some (Sum.inr (s.1, s.2.1, 0, s.2.2.2.2.1.1, bWrap s.2.2.2.2.1 12 (nI g) (nI r.2.2.2.1) (-1) (nI s.2.2.2.1), []))))
  else G T n f 15 E o r.1 r.2.1 r.2.2.2.1 r.2.2.2.1 1 g r.2.2.2.2.1)
theorem m_listed {f q v g : Nat} {b : BT} {y : Fl RT} {σ : MS} {L : Nat → Int32} (H : ∀ f', f' ≤ f → S0 T n f') (hG : gLs T n f E o q v g b = some y) (hS : PS T n E o q v b σ) (h1 : 1 ≤ M) (hM : M ≤ b.1) (hP : P ≤ b.2.1) (hn : b.1 + (n + 1 - q) + 3 * (d + 3) ≤ 70000) (hp : b.2.1 + (n - q) ≤ 70000) (hdd : 12 * (21 - o) + 11 ≤ d) (hg : g ≤ 1) (hL : L 1 = nI g) : Tm (fun k => x_GE k (d + 1) 5 0 L σ) (Po T n E o M P (b.1 + (n + 1 - q) + 3 * (d + 2)) σ y) := by
  have hq := PS_q hS
  have hv := PS_v hS
  have H0 := H f (Nat.le_refl _)
  unfold gLs at hG
  refine Tm_suc (fun k => by rw [xE_5]) ?_
  show Tm (fun k => ob (x_GE k d 3 0 (fun _ => 0) σ) _) _
  rcases gb_any hG with ⟨yf, h7, rfl⟩ | ⟨s, h7, hG⟩
  · refine Tm_ob (H0 _ _ _ _ _ _ _ _ h7 σ _ d M P hS h1 hM hP (by omega) hp (by omega) trivial) (fun r7 hr7 => ?_)
    obtain ⟨⟨m1, hm, hmk, hMm⟩, _, hF7⟩ := hr7
    refine Tm_ite (c := r7.2.1 10 = 0) (fun z => absurd z hm.1) (fun _ => ?_)
    refine Tm_suc (fun k => by rw [xE_5]) ?_
    show Tm (fun k => x_GE k (d + 1) 5 2 (upd (upd (upd L 2 r7.1) 3 (upd L 2 r7.1 2)) 4 1) r7.2) _
    refine Tm_suc (fun k => by rw [xE_5]) ?_
    refine Tm_ite (c := r7.2.1 10 = 0) (fun z => absurd z hm.1) (fun _ => ?_)
    have b7 : ∀ (N : Nat → Int32), Tm (fun k => x_GE k (d + 1) 5 7 N r7.2) (Po T n E o M P (b.1 + (n + 1 - q) + 3 * (d + 2)) σ (Sum.inl yf)) := fun N => by
      refine Tm_suc (fun k => by rw [xE_5]) ?_
      refine Tm_ob (b_node (M := M) (P := P) (w := E.2.2.2.1) hm (by omega) hMm _) (fun r8 hr8 => ?_)
      exact Tm_some ⟨⟨_, hr8.2.1, by omega, by omega⟩, ⟨_, hr8.1, by omega, Or.inr hMm⟩, FrM_tr hF7 hr8.2.2⟩
    refine Tm_suc (fun k => by rw [xE_5]) ?_
    refine Tm_ite (fun _ => b7 _) (fun _ => ?_)
    refine Tm_suc (fun k => by rw [xE_5]) ?_
    exact b7 _
  obtain ⟨⟨a1, a2, a3, a4, a5, a6, a7, a8⟩, a9⟩ := mo_of (M := M) hq.1 hv h7 hM h1 trivial (fun h => h) (fun h => h)
  have a9' := (mo_of (M := b.1) hq.1 hv h7 (Nat.le_refl _) (by omega) trivial (fun h => h) (fun h => h)).2
  refine Tm_ob (H0 _ _ _ _ _ _ _ _ h7 σ _ d M P hS h1 hM hP (by omega) hp (by omega) trivial) (fun r7 hr7 => ?_)
  obtain ⟨hS7, hr71, hF7⟩ := hr7
  have hv7 := PS_v hS7
  have hws := tkN_b T n s.1 a2
  refine Tm_ite (c := r7.2.1 10 = 0) (fun _ => ?_) (fun z => absurd (PS_ok hS7) z)
  refine Tm_ob (p_sign hS7 (s := 16) (by decide) (by decide) rfl) (fun r3 hr3 => ?_)
  obtain ⟨u, τ⟩ := r3
  obtain ⟨h3, hr3⟩ := hr3
  have h3 : τ = r7.2 := h3
  subst h3
  refine Tm_ite (fun z => ?_) (fun z => ?_)
  · rw [if_neg (fun y => hr3.mpr y z)] at hG
    refine Tm_suc (fun k => by rw [xE_5]) ?_
    refine Tm_mono (list_loop (M := M) (P := P) (d := d) f (fun f' hf' => H f' (by omega)) _ _ _ _ _ _ _ y hG r7.2 _ hS7 h1 (by omega) (by omega) (by omega) (by omega) hdd (by omega) (Nat.le_refl _) hg ?_ ?_ ?_ ?_ a9.1 a9.2 a9.1 a9.2) (fun r hr => Po_tr hF7 (by omega) hr)
    · rw [upd_other (by decide), upd_other (by decide), upd_other (by decide)]; exact hL
    · rw [upd_other (by decide), upd_other (by decide), upd_same]; exact hr71
    · rw [upd_other (by decide), upd_same, upd_same]; exact hr71
    · rw [upd_same]; rfl
  have hK16 := hr3.mp z
  rw [if_pos hK16] at hG
  have hws4 := hws.2.2.2 (by rw [hK16]; decide)
  refine Tm_ob (p_take (M := M) (P := P) (w := E.2.2.2.1) hS7 _) (fun ra hra => ?_)
  show Tm (fun k => ob (x_GE k d 3 0 (fun _ => 0) ra.2) _) _
  rcases gT_any hG with ⟨t5, rfl⟩ | ⟨t5, hG⟩
  · rcases hra.2 with ⟨_, hB⟩ | ⟨z, _⟩
    · obtain ⟨d', hd'⟩ : ∃ d', d = d' + 7 := ⟨d - 7, by omega⟩
      refine Tm_ob (by rw [hd']; exact b_exp hB.1) (fun rx hrx => ?_)
      subst hrx
      refine Tm_ob (b_wrapped (M := M) (P := P) (w := E.2.2.2.1) hB (by omega) (by omega) _) (fun r8 hr8 => ?_)
      exact Tm_some ⟨⟨_, hr8.2.1, by omega, by omega⟩, ⟨_, hr8.1, by omega, Or.inr (by omega)⟩, FrM_tr hF7 (FrM_tr hra.1 hr8.2.2)⟩
    · exact absurd t5 z
  rcases hra.2 with ⟨z, _⟩ | ⟨_, hSa⟩
  · exact absurd z t5
  rcases gb_any hG with ⟨yf, h9, rfl⟩ | ⟨s9, h9, hG⟩
  · refine Tm_ob (H0 _ _ _ _ _ _ _ _ h9 ra.2 _ d M P hSa h1 (by omega) (by omega) (by omega) (by omega) (by omega) trivial) (fun rx hrx => ?_)
    obtain ⟨⟨m1, hm, hmk, hMm⟩, _, hFx⟩ := hrx
    refine Tm_ob (b_wrapped (M := M) (P := P) (w := E.2.2.2.1) hm (by omega) hMm _) (fun r8 hr8 => ?_)
    exact Tm_some ⟨⟨_, hr8.2.1, by omega, by omega⟩, ⟨_, hr8.1, by omega, Or.inr hMm⟩, FrM_tr hF7 (FrM_tr hra.1 (FrM_tr hFx hr8.2.2))⟩
  obtain ⟨⟨f1, f2, f3, f4, f5, f6, f7, f8⟩, f9⟩ := mo_of (M := M) hws.2.1 hv7 h9 (by omega) h1 trivial (fun h => h) (fun h => h)
  refine Tm_ob (H0 _ _ _ _ _ _ _ _ h9 ra.2 _ d M P hSa h1 (by omega) (by omega) (by omega) (by omega) (by omega) trivial) (fun rx hrx => ?_)
  obtain ⟨hSx, hrx1, hFx⟩ := hrx
  refine Tm_ob (p_wrapped (M := M) (P := P) (w := E.2.2.2.1) hSx (by omega) (by omega) _) (fun r8 hr8 => ?_)
  obtain ⟨hr81, hS8, hF8⟩ := hr8
  cases hG
  refine Tm_some ⟨?_, hr81, FrM_tr hF7 (FrM_tr hra.1 (FrM_tr hFx hF8))⟩
  have w2 : (upd (upd (upd (upd (upd (fun _ => (0 : Int32)) 1 12) 2 (L 1)) 3 r7.1) 4 (-1)) 5 rx.1) 2 = nI g := by rw [upd_other (by decide), upd_other (by decide), upd_other (by decide), upd_same]; exact hL
  have w3 : (upd (upd (upd (upd (upd (fun _ => (0 : Int32)) 1 12) 2 (L 1)) 3 r7.1) 4 (-1)) 5 rx.1) 3 = nI s.2.2.2.1 := by rw [upd_other (by decide), upd_other (by decide), upd_same]; exact hr71
  have w5 : (upd (upd (upd (upd (upd (fun _ => (0 : Int32)) 1 12) 2 (L 1)) 3 r7.1) 4 (-1)) 5 rx.1) 5 = nI s9.2.2.2.1 := by rw [upd_same]; exact hrx1
  rw [w2, w3, w5] at hS8
  exact hS8
end LISTED
end JnS43
section JnS44
variable {yf : Nat × Nat}
/-! Brackets, quantifiers. -/
theorem dropR_len (E : En) : dropR E E.2.2.1.length = E := by
  unfold dropR
  rw [Nat.sub_self, List.drop_zero]
section BRK
variable {T : Nat → Int32} {n o M P d : Nat} {E : En}
theorem PS_sn {q v : Nat} {b : BT} {σ : MS} {ns : List Nm} (h : PS T n (seeN E ns) o q v b σ) : PS T n E o q v b (upd σ.1 38 (nI E.2.1.length), σ.2.1, σ.2.2) := by
  obtain ⟨hT, hO, hB, hV, ⟨⟨g1, g2, g3⟩, ⟨g4, g5, g6⟩, ⟨g7, g8, g9⟩⟩, hF⟩ := h
  have g2 : (ns ++ E.2.1).length ≤ v := g2
  have r : ∀ j, j ≠ 38 → ((upd σ.1 38 (nI E.2.1.length), σ.2.1, σ.2.2) : MS).1 j = σ.1 j := fun j hj => upd_other hj
  refine ⟨PT_c (fun j _ _ => r j (by omega)) rfl rfl hT, ⟨(r 13 (by decide)).trans hO.1, hO.2⟩, PB_c (r 22 (by decide)) (r 24 (by decide)) (fun _ _ => rfl) hB, PV_c (r 37 (by decide)) rfl rfl hV, ⟨⟨(upd_same : upd σ.1 38 (nI E.2.1.length) 38 = _), ?_, rows_suf ns g3⟩, ⟨(r 52 (by decide)).trans g4, g5, g6⟩, ⟨(r 25 (by decide)).trans g7, g8, g9⟩⟩, PF_c (E := E) (r 43 (by decide)) (r 42 (by decide)) rfl hF⟩
  rw [List.length_append] at g2
  omega
theorem Bb_sn {m : Nat} {σ : MS} (h : Bb yf m σ) (x : Int32) : Bb yf m (upd σ.1 38 x, σ.2.1, σ.2.2) := ⟨by show ¬ upd σ.1 38 x 10 = 0; rw [upd_other (by decide)]; exact h.1, by show upd σ.1 38 x 22 = _ ∧ upd σ.1 38 x 11 = _ ∧ upd σ.1 38 x 12 = _; rw [upd_other (by decide), upd_other (by decide), upd_other (by decide)]; exact h.2⟩
theorem FrM_sn {w : Nat} {σ : MS} (x : Int32) : FrM M P w σ (upd σ.1 38 x, σ.2.1, σ.2.2) := FrM_sc (fun j hj => upd_other (by omega))
/-- a row of iters, from its beginning -/
theorem m_iters {f q v : Nat} {b : BT} {x : Fl RT} {σ : MS} {L : Nat → Int32} {g : Nat} (H17 : S17 T n f) (hG : G T n f 17 E o q v 0 0 E.2.2.1.length g b = some x) (hS : PS T n E o q v b σ) (h1 : 1 ≤ M) (hM : M ≤ b.1) (hP : P ≤ b.2.1) (hn : b.1 + (n + 1 - q) + 3 * (d + 2) ≤ 70000) (hp : b.2.1 + (n - q) ≤ 70000) (hdd : 12 * (21 - o) + 8 ≤ d) (hg : g ≤ 1) (hL : L 1 = nI g) : Tm (fun k => x_GE k d 4 0 L σ) (fun r => match x with
    | Sum.inl yf => (∃ m, Bb yf m r.2 ∧ m ≤ b.1 + (n + 1 - q) + 3 * (d + 1) ∧ M ≤ m) ∧ FrM M P E.2.2.2.1 σ r.2
    | Sum.inr t => PS T n (seeN E t.2.2.2.2.2) o t.1 t.2.1 t.2.2.2.2.1 r.2 ∧ r.1 = nI t.2.2.2.1 ∧ FrM M P E.2.2.2.1 σ r.2) := by
  have h52 : σ.1 52 = nI E.2.2.1.length := hS.2.2.2.2.1.2.1.1
  refine Tm_suc (fun k => by rw [xE_4]) ?_
  refine Tm_mono (H17 _ _ _ _ _ _ _ _ _ x hG σ (upd (upd (upd (upd L 2 (σ.1 52)) 3 (-1)) 4 (-1)) 5 1) d M P hS h1 hM hP hn hp hdd (Nat.le_refl _) hg ?_ ?_ ?_ (Or.inl rfl) ?_) (fun r hr => ?_)
  · rw [upd_other (by decide), upd_other (by decide), upd_other (by decide), upd_other (by decide)]; exact hL
  · rw [upd_other (by decide), upd_other (by decide), upd_other (by decide), upd_same]; exact h52
  · rw [upd_other (by decide), upd_other (by decide), upd_same]; rfl
  · rw [upd_same]; decide
  cases x with
  | inl yf => exact hr
  | inr t =>
    obtain ⟨k1, k2, k3⟩ := hr
    rw [dropR_len] at k1
    exact ⟨k1, k2, k3⟩
/-- after a fault: nothing is told -/
theorem b_iters {σ : MS} {L : Nat → Int32} (h : ¬ σ.1 10 = 0) : Tm (fun k => x_GE k d 4 0 L σ) (fun r => r.2 = (upd σ.1 52 (σ.1 52), σ.2.1, σ.2.2) ∧ r.1 = -1) := by
  refine Tm_suc (fun k => by rw [xE_4]) ?_
  show Tm (fun k => x_GE k d 4 1 (upd (upd (upd (upd L 2 (σ.1 52)) 3 (-1)) 4 (-1)) 5 1) σ) _
  have e2 : upd (upd (upd (upd L 2 (σ.1 52)) 3 (-1)) 4 (-1)) 5 1 2 = σ.1 52 := by rw [upd_other (by decide), upd_other (by decide), upd_other (by decide), upd_same]
  have e3 : upd (upd (upd (upd L 2 (σ.1 52)) 3 (-1)) 4 (-1)) 5 1 3 = -1 := by rw [upd_other (by decide), upd_other (by decide), upd_same]
  have e5 : ¬ upd (upd (upd (upd L 2 (σ.1 52)) 3 (-1)) 4 (-1)) 5 1 5 = 0 := by rw [upd_same]; decide
  generalize upd (upd (upd (upd L 2 (σ.1 52)) 3 (-1)) 4 (-1)) 5 1 = N at e2 e3 e5
  refine Tm_suc (fun k => by rw [xE_4]) ?_
  refine Tm_ite (c := N 5 = 0) (fun z => absurd z e5) (fun _ => ?_)
  refine Tm_ite (c := σ.1 10 = 0) (fun z => absurd z h) (fun _ => ?_)
  refine Tm_suc (fun k => by rw [xE_4]) ?_
  show Tm (fun k => x_GE k d 4 14 N (upd σ.1 52 (N 2), σ.2.1, σ.2.2)) _
  refine Tm_suc (fun k => by rw [xE_4]) ?_
  exact Tm_some ⟨by rw [e2], e3⟩
/-- exists, forall -/
theorem m_quant {f q v : Nat} {b : BT} {x : Fl RT} {σ : MS} {L : Nat → Int32} {ex : Nat} (H0 : S0 T n f) (H17 : S17 T n f)
    (hG : gO o q (gT T n q (fun q1 => gb (G T n f 17 E (o + 1) q1 v 0 0 E.2.2.1.length 0 b) (fun r => gW T n 15 r.1 (fun q2 => gb (G T n f 0 (seeN E r.2.2.2.2.2) (o + 1) q2 r.2.1 0 0 0 0 r.2.2.2.2.1) (fun s => some (Sum.inr (s.1, s.2.1, 0, s.2.2.2.2.1.1, bNode s.2.2.2.2.1 14 (nI ex) (hd r.2.2.2.1) (nI s.2.2.2.1), []))))))) = some x)
    (hK : ¬ tkK T n q = 25) (hS : PS T n E o q v b σ) (h1 : 1 ≤ M) (hM : M ≤ b.1) (hP : P ≤ b.2.1) (hn : b.1 + (n + 1 - q) + 3 * (d + 3) ≤ 70000) (hp : b.2.1 + (n - q) ≤ 70000) (hdd : 12 * (21 - o) + 1 ≤ d + 1) (hL : L 1 = nI ex) : Tm (fun k => x_GE k (d + 1) 12 0 L σ) (Po T n E o M P (b.1 + (n + 1 - q) + 3 * (d + 2)) σ x) := by
  have hq := PS_q hS
  have hv := PS_v hS
  have ho := PS_o hS
  have hu := tkN_b T n q hq.1
  have hu4 := hu.2.2.2 hK
  have b2 : ∀ {yf : Nat × Nat} (ρ : MS) (m : Nat) (N : Nat → Int32), Bb yf m ρ → M ≤ m → m + 1 ≤ b.1 + (n + 1 - q) + 3 * (d + 2) → FrM M P E.2.2.2.1 σ ρ → Tm (fun k => x_GE k (d + 1) 12 2 N ρ) (Po T n E o M P (b.1 + (n + 1 - q) + 3 * (d + 2)) σ (Sum.inl yf)) := fun {yf} ρ m N hB hMm hm hF => by
    refine Tm_suc (fun k => by rw [xE_12]) ?_
    show Tm (fun k => x_GE k (d + 1) 12 3 N (mOpn ρ (ρ.1 13 - 1))) _
    refine Tm_suc (fun k => by rw [xE_12]) ?_
    refine Tm_ob (b_node (M := M) (P := P) (w := E.2.2.2.1) (Bb_opn hB _) (by omega) hMm _) (fun r8 hr8 => ?_)
    exact Tm_some ⟨⟨_, hr8.2.1, hm, by omega⟩, ⟨_, hr8.1, by omega, Or.inr hMm⟩, FrM_tr hF (FrM_tr (FrM_opn _) hr8.2.2)⟩
  -- from want on, behind a fault
  have bw : ∀ {yf : Nat × Nat} (ρ : MS) (m : Nat) (N : Nat → Int32) (y y38 : Int32), Bb yf m ρ → M ≤ m → m + 1 ≤ b.1 + (n + 1 - q) + 3 * (d + 2) → FrM M P E.2.2.2.1 σ ρ → Tm (fun k => ob (x_want k 0 (upd (fun _ => 0) 1 15) ρ) (fun r2 => ob (x_GE k d 3 0 (fun _ => 0) r2.2) (fun r3 => x_GE k (d + 1) 12 2 (upd (upd (upd N 2 y38) 3 y) 4 r3.1) (upd r3.2.1 38 y38, r3.2.2.1, r3.2.2.2)))) (Po T n E o M P (b.1 + (n + 1 - q) + 3 * (d + 2)) σ (Sum.inl yf)) := fun {yf} ρ m N y y38 hB hMm hm hF => by
    refine Tm_ob (b_want hB.1 _) (fun r1 hr1 => ?_)
    obtain ⟨u, τ⟩ := r1
    have hr1 : τ = ρ := hr1
    subst hr1
    obtain ⟨d', hd'⟩ : ∃ d', d = d' + 7 := ⟨d - 7, by omega⟩
    refine Tm_ob (by rw [hd']; exact b_exp hB.1) (fun r7 hr7 => ?_)
    subst hr7
    exact b2 _ m _ (Bb_sn hB _) hMm hm (FrM_tr hF (FrM_sn _))
  have b1 : ∀ {yf : Nat × Nat} (ρ : MS) (N : Nat → Int32), Bb yf b.1 ρ → FrM M P E.2.2.2.1 σ ρ → Tm (fun k => x_GE k (d + 1) 12 1 N ρ) (Po T n E o M P (b.1 + (n + 1 - q) + 3 * (d + 2)) σ (Sum.inl yf)) := fun {yf} ρ N hB hF => by
    refine Tm_suc (fun k => by rw [xE_12]) ?_
    show Tm (fun k => ob (x_GE k d 4 0 (upd (fun _ => 0) 1 0) ρ) (fun r1 => ob (x_want k 0 (upd (fun _ => 0) 1 15) r1.2) (fun r2 => ob (x_GE k d 3 0 (fun _ => 0) r2.2) (fun r3 => x_GE k (d + 1) 12 2 (upd (upd (upd N 2 (ρ.1 38)) 3 r1.1) 4 r3.1) (upd r3.2.1 38 (ρ.1 38), r3.2.2.1, r3.2.2.2))))) _
    refine Tm_ob (b_iters hB.1) (fun r1 hr1 => ?_)
    obtain ⟨hr1, hr1b⟩ := hr1
    exact bw r1.2 b.1 N _ _ ⟨by rw [hr1]; show ¬ upd ρ.1 52 (ρ.1 52) 10 = 0; rw [upd_other (by decide)]; exact hB.1, by rw [hr1]; show upd ρ.1 52 (ρ.1 52) 22 = _ ∧ upd ρ.1 52 (ρ.1 52) 11 = _ ∧ upd ρ.1 52 (ρ.1 52) 12 = _; rw [upd_other (by decide), upd_other (by decide), upd_other (by decide)]; exact hB.2⟩ hM (by omega) (FrM_tr hF (by rw [hr1]; exact FrM_sc (fun j hj => upd_other (by omega))))
  refine Tm_suc (fun k => by rw [xE_12]) ?_
  refine Tm_ob (p_open (M := M) (P := P) (w := E.2.2.2.1) hS _) (fun r1 hr1 => ?_)
  rcases gO_any hG with ⟨o0, rfl⟩ | ⟨o0, hG⟩
  · rcases hr1.2 with ⟨_, hB⟩ | ⟨y, _⟩
    · exact Tm_ite (c := r1.2.1 10 = 0) (fun c => absurd c hB.1) (fun _ => b1 r1.2 _ hB hr1.1)
    · omega
  rcases hr1.2 with ⟨y, _⟩ | ⟨ho2, hS1, h13⟩
  · exact absurd y o0
  refine Tm_ite (c := r1.2.1 10 = 0) (fun _ => ?_) (fun c => absurd (PS_ok hS1) c)
  refine Tm_ob (p_take (M := M) (P := P) (w := E.2.2.2.1) hS1 _) (fun r3 hr3 => ?_)
  have hF3 := FrM_tr hr1.1 hr3.1
  rcases gT_any hG with ⟨t3, rfl⟩ | ⟨t3, hG⟩
  · rcases hr3.2 with ⟨_, hB⟩ | ⟨y, _⟩
    · exact b1 r3.2 _ hB hF3
    · exact absurd t3 y
  rcases hr3.2 with ⟨y, _⟩ | ⟨_, hS3⟩
  · exact absurd y t3
  have h38 : r3.2.1 38 = nI E.2.1.length := hS3.2.2.2.2.1.1.1
  refine Tm_suc (fun k => by rw [xE_12]) ?_
  show Tm (fun k => ob (x_GE k d 4 0 (upd (fun _ => 0) 1 0) r3.2) (fun r1 => ob (x_want k 0 (upd (fun _ => 0) 1 15) r1.2) (fun r2 => ob (x_GE k d 3 0 (fun _ => 0) r2.2) (fun r4 => x_GE k (d + 1) 12 2 (upd (upd (upd L 2 (r3.2.1 38)) 3 r1.1) 4 r4.1) (upd r4.2.1 38 (r3.2.1 38), r4.2.2.1, r4.2.2.2))))) _
  rw [h38]
  rcases gb_any hG with ⟨yf, h7, rfl⟩ | ⟨s, h7, hG⟩
  · refine Tm_ob (m_iters (M := M) (P := P) H17 h7 hS3 h1 hM hP (by omega) (by omega) (by omega) (by decide) rfl) (fun r4 hr4 => ?_)
    obtain ⟨⟨m, k1, k2, k3⟩, k4⟩ := hr4
    exact bw r4.2 m L _ _ k1 k3 (by omega) (FrM_tr hF3 k4)
  obtain ⟨x1, x2⟩ := g_mono T n f 17 _ _ _ _ _ _ _ _ _ s hu.2.1 hv h7 M hM h1 (Or.inl rfl)
  obtain ⟨a1, a2, a3, a4, a5, a6, a7, a8⟩ := (x1 : Mo n _ _ _ s)
  have a9 : M ≤ s.2.2.2.1 ∧ s.2.2.2.1 < s.2.2.2.2.1.1 := x2
  refine Tm_ob (m_iters (M := M) (P := P) H17 h7 hS3 h1 hM hP (by omega) (by omega) (by omega) (by decide) rfl) (fun r4 hr4 => ?_)
  obtain ⟨hS4, hr41, hF4⟩ := hr4
  have hv4 := PS_v hS4
  have hF4 : FrM M P E.2.2.2.1 σ r4.2 := FrM_tr hF3 hF4
  have hws := tkN_b T n s.1 a2
  refine Tm_ob (p_want (M := M) (P := P) (w := E.2.2.2.1) hS4 (s := 15) (by decide) (by decide) rfl) (fun r5 hr5 => ?_)
  rcases gW_any hG with ⟨t5, rfl⟩ | ⟨t5, hG⟩
  · rcases hr5.2 with ⟨_, hB⟩ | ⟨y, _⟩
    · obtain ⟨d', hd'⟩ : ∃ d', d = d' + 7 := ⟨d - 7, by omega⟩
      refine Tm_ob (by rw [hd']; exact b_exp hB.1) (fun r7 hr7 => ?_)
      subst hr7
      exact b2 _ _ _ (Bb_sn hB _) (by omega) (by omega) (FrM_tr hF4 (FrM_tr hr5.1 (FrM_sn _)))
    · exact absurd y t5
  rcases hr5.2 with ⟨y, _⟩ | ⟨_, hS5⟩
  · exact absurd t5 y
  have hws4 := hws.2.2.2 (by rw [t5.1]; decide)
  rcases gb_any hG with ⟨yf, h9, rfl⟩ | ⟨s9, h9, hG⟩
  · refine Tm_ob (H0 _ _ _ _ _ _ _ _ h9 r5.2 _ d M P hS5 h1 (by omega) (by omega) (by omega) (by omega) (by omega) trivial) (fun rx hrx => ?_)
    obtain ⟨⟨m1, hm, hmk, hMm⟩, _, hFx⟩ := hrx
    exact b2 _ m1 _ (Bb_sn hm _) hMm (by omega) (FrM_tr hF4 (FrM_tr hr5.1 (FrM_tr hFx (FrM_sn _))))
  obtain ⟨⟨f1, f2, f3, f4, f5, f6, f7, f8⟩, f9⟩ := mo_of (M := M) hws.2.1 hv4 h9 (by omega) h1 trivial (fun h => h) (fun h => h)
  refine Tm_ob (H0 _ _ _ _ _ _ _ _ h9 r5.2 _ d M P hS5 h1 (by omega) (by omega) (by omega) (by omega) (by omega) trivial) (fun rx hrx => ?_)
  obtain ⟨hSx, hrx1, hFx⟩ := hrx
  have hSy := PS_sn hSx
  refine Tm_suc (fun k => by rw [xE_12]) ?_
  show Tm (fun k => x_GE k (d + 1) 12 3 _ (mOpn (upd rx.2.1 38 (nI E.2.1.length), rx.2.2.1, rx.2.2.2) (_ - 1))) _
  refine Tm_suc (fun k => by rw [xE_12]) ?_
  refine Tm_ob (p_node (M := M) (P := P) (w := E.2.2.2.1) (PS_clo hSy) (by omega) (by omega) _) (fun r8 hr8 => ?_)
  obtain ⟨hr81, hS8, hF8⟩ := hr8
  cases hG
  refine Tm_some ⟨?_, hr81, FrM_tr hF4 (FrM_tr hr5.1 (FrM_tr hFx (FrM_tr (FrM_sn _) (FrM_tr (FrM_opn _) hF8))))⟩
  have w2 : (upd (upd (upd (upd (fun _ => (0 : Int32)) 1 14) 2 (upd (upd (upd L 2 (nI E.2.1.length)) 3 r4.1) 4 rx.1 1)) 3 (upd (upd (upd L 2 (nI E.2.1.length)) 3 r4.1) 4 rx.1 3)) 4 (upd (upd (upd L 2 (nI E.2.1.length)) 3 r4.1) 4 rx.1 4)) 2 = nI ex := by
    rw [upd_other (by decide), upd_other (by decide), upd_same, upd_other (by decide), upd_other (by decide), upd_other (by decide)]; exact hL
  have w3 : (upd (upd (upd (upd (fun _ => (0 : Int32)) 1 14) 2 (upd (upd (upd L 2 (nI E.2.1.length)) 3 r4.1) 4 rx.1 1)) 3 (upd (upd (upd L 2 (nI E.2.1.length)) 3 r4.1) 4 rx.1 3)) 4 (upd (upd (upd L 2 (nI E.2.1.length)) 3 r4.1) 4 rx.1 4)) 3 = hd s.2.2.2.1 := by
    rw [upd_other (by decide), upd_same, upd_other (by decide), upd_same, hr41, hd_pos (by omega)]
  have w4 : (upd (upd (upd (upd (fun _ => (0 : Int32)) 1 14) 2 (upd (upd (upd L 2 (nI E.2.1.length)) 3 r4.1) 4 rx.1 1)) 3 (upd (upd (upd L 2 (nI E.2.1.length)) 3 r4.1) 4 rx.1 3)) 4 (upd (upd (upd L 2 (nI E.2.1.length)) 3 r4.1) 4 rx.1 4)) 4 = nI s9.2.2.2.1 := by
    rw [upd_same, upd_same]; exact hrx1
  rw [w2, w3, w4] at hS8
  exact hS8
end BRK
end JnS44
section JnS45
variable {yf : Nat × Nat}
/-- a fault stays behind iters -/
theorem Bb_r4 {m : Nat} {ρ ω : MS} (e : ω = (upd ρ.1 52 (ρ.1 52), ρ.2.1, ρ.2.2)) (h : Bb yf m ρ) : Bb yf m ω := by
  rw [e]
  refine ⟨?_, ?_⟩
  · show ¬ upd ρ.1 52 (ρ.1 52) 10 = 0
    rw [upd_other (by decide)]; exact h.1
  · show upd ρ.1 52 (ρ.1 52) 22 = _ ∧ upd ρ.1 52 (ρ.1 52) 11 = _ ∧ upd ρ.1 52 (ρ.1 52) 12 = _
    rw [upd_other (by decide), upd_other (by decide), upd_other (by decide)]; exact h.2
/-! Brackets. -/
section BRK
variable {T : Nat → Int32} {n o M P d : Nat} {E : En}
theorem gLs_x {f q v g t : Nat} {b : BT} {x : Fl RT}
    (hG : gb (G T n f 0 E o q v 0 0 0 0 b) (fun r =>
          if tkK T n r.1 = 16 then gT T n r.1 (fun q2 => gb (G T n f 0 E o q2 r.2.1 0 0 0 0 r.2.2.2.2.1) (fun s => gW T n t s.1 (fun q3 => some (Sum.inr (q3, s.2.1, 0, s.2.2.2.2.1.1, bWrap s.2.2.2.2.1 12 (nI g) (nI r.2.2.2.1) (-1) (nI s.2.2.2.1), [])))))
          else gb (G T n f 15 E o r.1 r.2.1 r.2.2.2.1 r.2.2.2.1 1 g r.2.2.2.2.1) (fun s => gW T n t s.1 (fun q3 => some (Sum.inr (q3, s.2.1, 0, s.2.2.2.1, s.2.2.2.2.1, []))))) = some x) :
    ∃ y, gLs T n f E o q v g b = some y ∧ (match y with | Sum.inl yf => x = Sum.inl yf | Sum.inr s => gW T n t s.1 (fun q3 => some (Sum.inr (q3, s.2.1, 0, s.2.2.2.1, s.2.2.2.2.1, []))) = some x) := by
  unfold gLs
  rcases gb_any hG with ⟨yf, h7, hx⟩ | ⟨r, h7, hG⟩
  · rw [h7]; exact ⟨Sum.inl yf, rfl, hx⟩
  rw [h7]
  show ∃ y, (if tkK T n r.1 = 16 then _ else _) = some y ∧ _
  by_cases c : tkK T n r.1 = 16
  · rw [if_pos c] at hG
    rw [if_pos c]
    rcases gT_any hG with ⟨t0, hx⟩ | ⟨t0, hG⟩
    · exact ⟨_, if_pos t0, hx⟩
    rcases gb_any hG with ⟨yf, h9, hx⟩ | ⟨s, h9, hG⟩
    · refine ⟨Sum.inl yf, ?_, hx⟩
      unfold gT; rw [if_neg t0]; dsimp only; rw [h9]; rfl
    · refine ⟨Sum.inr (s.1, s.2.1, 0, s.2.2.2.2.1.1, bWrap s.2.2.2.2.1 12 (nI g) (nI r.2.2.2.1) (-1) (nI s.2.2.2.1), []), ?_, hG⟩
      unfold gT; rw [if_neg t0]; dsimp only; rw [h9]; rfl
  · rw [if_neg c] at hG
    rw [if_neg c]
    rcases gb_any hG with ⟨yf, h9, hx⟩ | ⟨s, h9, hG⟩
    · exact ⟨Sum.inl yf, h9, hx⟩
    · exact ⟨Sum.inr s, h9, hG⟩
theorem gLs_mo {f q v g : Nat} {b : BT} {s : RT} (hq : q ≤ n) (hv : v ≤ 60) (hM : M ≤ b.1) (h1 : 1 ≤ M) (hG : gLs T n f E o q v g b = some (Sum.inr s)) : Mo1 n b q v s ∧ M ≤ s.2.2.2.1 ∧ s.2.2.2.1 < s.2.2.2.2.1.1 := by
  unfold gLs at hG
  obtain ⟨r, h7, hG⟩ := gb_s hG
  obtain ⟨⟨a1, a2, a3, a4, a5, a6, a7, a8⟩, a9⟩ := mo_of (M := M) hq hv h7 hM h1 trivial (fun h => h) (fun h => h)
  by_cases c : tkK T n r.1 = 16
  · rw [if_pos c] at hG
    obtain ⟨t0, hG⟩ := gT_s hG
    obtain ⟨s', h9, hG⟩ := gb_s hG
    have hws := tkN_b T n r.1 a2
    have hws4 := hws.2.2.2 (by rw [c]; decide)
    obtain ⟨⟨f1, f2, f3, f4, f5, f6, f7, f8⟩, f9⟩ := mo_of (M := M) hws.2.1 (by omega) h9 (by omega) h1 trivial (fun h => h) (fun h => h)
    cases hG
    refine ⟨?_, ?_, ?_⟩
    · unfold Mo1; simp only [bWrap_1, bWrap_p]; omega
    · dsimp only; omega
    · simp only [bWrap_1]; omega
  · rw [if_neg c] at hG
    obtain ⟨x1, x2⟩ := g_mono T n f 15 _ _ _ _ _ _ _ _ _ s a2 (by omega) hG M (by omega) h1 (⟨a9.1, a9.2, a9.1, a9.2⟩ : M ≤ _ ∧ _ < _ ∧ M ≤ _ ∧ _ < _)
    obtain ⟨f1, f2, f3, f4, f5, f6, f7, f8⟩ := (x1 : Mo1 n _ _ _ s)
    exact ⟨by unfold Mo1; omega, x2⟩
theorem m_brackets {f q v : Nat} {b : BT} {x : Fl RT} {σ : MS} {L : Nat → Int32} (H : ∀ f', f' ≤ f → S0 T n f') (H17 : S17 T n f)
    (hG : gO o q (gT T n q (fun q1 =>
        if tkK T n q1 = tkK T n q + 1 then gT T n q1 (fun q2 => some (Sum.inr (q2, v, 0, b.1, bNode b (if tkK T n q = 8 then 10 else 11) 0 (-1) 0, [])))
        else if tkK T n q1 = 45 then gT T n q1 (fun q2 => gb (G T n f 17 E (o + 1) q2 v 0 0 E.2.2.1.length 0 b) (fun r =>
          if tkK T n r.1 = 15 then gT T n r.1 (fun q3 => gb (G T n f 0 (seeN E r.2.2.2.2.2) (o + 1) q3 r.2.1 0 0 0 0 r.2.2.2.2.1) (fun s => gW T n 14 s.1 (fun q4 => gb (G T n f 0 (seeN E r.2.2.2.2.2) (o + 1) q4 s.2.1 0 0 0 0 s.2.2.2.2.1) (fun t => gW T n (tkK T n q + 1) t.1 (fun q5 => some (Sum.inr (q5, t.2.1, 0, t.2.2.2.2.1.1, bWrap t.2.2.2.2.1 13 (if tkK T n q = 8 then 1 else 0) (hd r.2.2.2.1) (nI s.2.2.2.1) (nI t.2.2.2.1), [])))))))
          else gW T n 14 r.1 (fun q4 => gb (G T n f 0 (seeN E r.2.2.2.2.2) (o + 1) q4 r.2.1 0 0 0 0 r.2.2.2.2.1) (fun t => gW T n (tkK T n q + 1) t.1 (fun q5 => some (Sum.inr (q5, t.2.1, 0, t.2.2.2.2.1.1, bWrap t.2.2.2.2.1 13 (if tkK T n q = 8 then 1 else 0) (hd r.2.2.2.1) (-1) (nI t.2.2.2.1), [])))))))
        else gb (G T n f 0 E (o + 1) q1 v 0 0 0 0 b) (fun r =>
          if tkK T n r.1 = 16 then gT T n r.1 (fun q2 => gb (G T n f 0 E (o + 1) q2 r.2.1 0 0 0 0 r.2.2.2.2.1) (fun s => gW T n (tkK T n q + 1) s.1 (fun q3 => some (Sum.inr (q3, s.2.1, 0, s.2.2.2.2.1.1, bWrap s.2.2.2.2.1 12 (if tkK T n q = 8 then 1 else 0) (nI r.2.2.2.1) (-1) (nI s.2.2.2.1), [])))))
          else gb (G T n f 15 E (o + 1) r.1 r.2.1 r.2.2.2.1 r.2.2.2.1 1 (if tkK T n q = 8 then 1 else 0) r.2.2.2.2.1) (fun s => gW T n (tkK T n q + 1) s.1 (fun q3 => some (Sum.inr (q3, s.2.1, 0, s.2.2.2.1, s.2.2.2.2.1, []))))))) = some x)
    (hK : tkK T n q = 8 ∨ tkK T n q = 10) (hS : PS T n E o q v b σ) (h1 : 1 ≤ M) (hM : M ≤ b.1) (hP : P ≤ b.2.1) (hn : b.1 + (n + 1 - q) + 3 * (d + 3) ≤ 70000) (hp : b.2.1 + (n - q) ≤ 70000) (hdd : 12 * (21 - o) + 2 ≤ d + 1) : Tm (fun k => x_GE k (d + 1) 0 0 L σ) (Po T n E o M P (b.1 + (n + 1 - q) + 3 * (d + 2)) σ x) := by
  have hq := PS_q hS
  have hv := PS_v hS
  have ho := PS_o hS
  have hu := tkN_b T n q hq.1
  have hu4 := hu.2.2.2 (by omega)
  have H0 := H f (Nat.le_refl _)
  -- set or tuple, the closing one
  obtain ⟨g, hg1, hgk, hgs⟩ : ∃ g : Nat, g ≤ 1 ∧ (g = 1 ↔ tkK T n q = 8) ∧ (if tkK T n q = 8 then (1 : Int32) else 0) = nI g := by
    by_cases c : tkK T n q = 8
    · exact ⟨1, by decide, ⟨fun _ => c, fun _ => rfl⟩, by rw [if_pos c]; rfl⟩
    · exact ⟨0, by decide, ⟨fun z => absurd z (by decide), fun z => absurd z c⟩, by rw [if_neg c]; rfl⟩
  have hgn : (if tkK T n q = 8 then 1 else 0) = g := by
    by_cases c : tkK T n q = 8
    · rw [if_pos c]; exact (hgk.mpr c).symm
    · rw [if_neg c]
      have : ¬ g = 1 := fun z => c (hgk.mp z)
      omega
  obtain ⟨t, ht⟩ : ∃ t, t = tkK T n q + 1 := ⟨_, rfl⟩
  have ht1 : 1 ≤ t ∧ t ≤ 24 := by omega
  rw [hgs, hgn, ← ht] at hG
  have hgs2 : (if tkK T n q = 8 then (10 : Int32) else 11) = (if g = 1 then 10 else 11) := by
    by_cases c : tkK T n q = 8
    · rw [if_pos c, if_pos (hgk.mpr c)]
    · rw [if_neg c, if_neg (fun z => c (hgk.mp z))]
  rw [hgs2] at hG
  -- the end
  have b12 : ∀ {yf : Nat × Nat} (ρ : MS) (m l : Nat) (N : Nat → Int32), N 3 = nI l → l < 70000 → (l = 0 ∨ M ≤ l) → Bb yf m ρ → M ≤ m → m ≤ b.1 + (n + 1 - q) + 3 * (d + 2) → FrM M P E.2.2.2.1 σ ρ → Tm (fun k => x_GE k (d + 1) 0 12 N ρ) (Po T n E o M P (b.1 + (n + 1 - q) + 3 * (d + 2)) σ (Sum.inl yf)) := fun {yf} ρ m l N hN hl hMl hB hMm hm hF => by
    refine Tm_suc (fun k => by rw [xE_0]) ?_
    refine Tm_ob (b_want hB.1 _) (fun r1 hr1 => ?_)
    obtain ⟨u, τ⟩ := r1
    have hr1 : τ = ρ := hr1
    subst hr1
    refine Tm_suc (fun k => by rw [xE_0]) ?_
    exact Tm_some ⟨⟨m, Bb_opn hB _, hm, hMm⟩, ⟨l, hN, hl, hMl⟩, FrM_tr hF (FrM_opn _)⟩
  have g12 : ∀ (ρ : MS) (l q2 v2 : Nat) (bb : BT) (N : Nat → Int32), N 2 = nI t → N 3 = nI l → l < bb.1 → M ≤ l → PS T n E (o + 1) q2 v2 bb ρ → bb.1 + q ≤ b.1 + q2 + 1 → b.1 ≤ bb.1 → q < q2 → gW T n t q2 (fun q3 => some (Sum.inr (q3, v2, 0, l, bb, []))) = some x → FrM M P E.2.2.2.1 σ ρ → Tm (fun k => x_GE k (d + 1) 0 12 N ρ) (Po T n E o M P (b.1 + (n + 1 - q) + 3 * (d + 2)) σ x) := fun ρ l q2 v2 bb N hN2 hN3 hl hMl hS2 z1 z2 hqq hG hF => by
    have hq2 := PS_q hS2
    refine Tm_suc (fun k => by rw [xE_0]) ?_
    refine Tm_ob (p_want (M := M) (P := P) (w := E.2.2.2.1) hS2 ht1.1 ht1.2 (by rw [upd_same]; exact hN2)) (fun r5 hr5 => ?_)
    refine Tm_suc (fun k => by rw [xE_0]) ?_
    rcases gW_any hG with ⟨t5, rfl⟩ | ⟨t5, hG⟩
    · rcases hr5.2 with ⟨_, hB⟩ | ⟨y, _⟩
      · exact Tm_some ⟨⟨_, Bb_opn hB _, by omega, by omega⟩, ⟨l, hN3, by omega, Or.inr hMl⟩, FrM_tr hF (FrM_tr hr5.1 (FrM_opn _))⟩
      · exact absurd y t5
    rcases hr5.2 with ⟨y, _⟩ | ⟨_, hS5⟩
    · exact absurd t5 y
    cases hG
    exact Tm_some ⟨PS_clo hS5, hN3, FrM_tr hF (FrM_tr hr5.1 (FrM_opn _))⟩
  -- a former from its : on, behind a fault
  have bw : ∀ {yf : Nat × Nat} (ρ : MS) (m : Nat) (N : Nat → Int32), Bb yf m ρ → M ≤ m → m + 1 ≤ b.1 + (n + 1 - q) + 3 * (d + 2) → FrM M P E.2.2.2.1 σ ρ → Tm (fun k => ob (x_wrapped k 0 (upd (upd (upd (upd (upd (fun _ => 0) 1 13) 2 (N 1)) 3 (N 5)) 4 (N 6)) 5 0) ρ) (fun r3 => x_GE k (d + 1) 0 12 (upd (upd N 7 0) 3 r3.1) (upd r3.2.1 38 (N 4), r3.2.2.1, r3.2.2.2))) (Po T n E o M P (b.1 + (n + 1 - q) + 3 * (d + 2)) σ (Sum.inl yf)) := fun {yf} ρ m N hB hMm hm hF => by
    refine Tm_ob (b_wrapped (M := M) (P := P) (w := E.2.2.2.1) hB (by omega) hMm _) (fun r8 hr8 => ?_)
    exact b12 _ (m + 1) m _ (by rw [upd_same]; exact hr8.1) (by omega) (Or.inr hMm) (Bb_sn hr8.2.1 _) (by omega) hm (FrM_tr hF (FrM_tr hr8.2.2 (FrM_sn _)))
  have b10 : ∀ {yf : Nat × Nat} (ρ : MS) (m : Nat) (N : Nat → Int32), Bb yf m ρ → M ≤ m → m + 1 ≤ b.1 + (n + 1 - q) + 3 * (d + 2) → FrM M P E.2.2.2.1 σ ρ → Tm (fun k => x_GE k (d + 1) 0 10 N ρ) (Po T n E o M P (b.1 + (n + 1 - q) + 3 * (d + 2)) σ (Sum.inl yf)) := fun {yf} ρ m N hB hMm hm hF => by
    refine Tm_suc (fun k => by rw [xE_0]) ?_
    refine Tm_ob (b_want hB.1 _) (fun r1 hr1 => ?_)
    obtain ⟨u, τ⟩ := r1
    have hr1 : τ = ρ := hr1
    subst hr1
    show Tm (fun k => ob (x_GE k d 3 0 (fun _ => 0) τ) _) _
    obtain ⟨d', hd'⟩ : ∃ d', d = d' + 7 := ⟨d - 7, by omega⟩
    refine Tm_ob (by rw [hd']; exact b_exp hB.1) (fun r7 hr7 => ?_)
    subst hr7
    exact bw τ m N hB hMm hm hF
  -- good: the exp behind :
  have g10 : ∀ (ρ : MS) (N : Nat → Int32) (ns : List Nm) (q2 v2 hl : Nat) (cd : Int32) (bb : BT), N 1 = nI g → N 2 = nI t → N 4 = nI E.2.1.length → N 5 = hd hl → N 6 = cd → PS T n (seeN E ns) (o + 1) q2 v2 bb ρ → q < q2 → b.1 ≤ bb.1 → bb.1 + q ≤ b.1 + q2 → b.2.1 ≤ bb.2.1 → bb.2.1 + q ≤ b.2.1 + q2 → FrM M P E.2.2.2.1 σ ρ →
      gW T n 14 q2 (fun q4 => gb (G T n f 0 (seeN E ns) (o + 1) q4 v2 0 0 0 0 bb) (fun s => gW T n t s.1 (fun q5 => some (Sum.inr (q5, s.2.1, 0, s.2.2.2.2.1.1, bWrap s.2.2.2.2.1 13 (nI g) (hd hl) cd (nI s.2.2.2.1), []))))) = some x →
      Tm (fun k => x_GE k (d + 1) 0 10 N ρ) (Po T n E o M P (b.1 + (n + 1 - q) + 3 * (d + 2)) σ x) := fun ρ N ns q2 v2 hl cd bb n1 n2 n4 n5 n6 hS2 hqq z1 z2 z3 z4 hF hG => by
    have hq2 := PS_q hS2
    have hv2 := PS_v hS2
    have hu2 := tkN_b T n q2 hq2.1
    refine Tm_suc (fun k => by rw [xE_0]) ?_
    refine Tm_ob (p_want (M := M) (P := P) (w := E.2.2.2.1) hS2 (s := 14) (by decide) (by decide) rfl) (fun r5 hr5 => ?_)
    show Tm (fun k => ob (x_GE k d 3 0 (fun _ => 0) r5.2) _) _
    rcases gW_any hG with ⟨t5, rfl⟩ | ⟨t5, hG⟩
    · rcases hr5.2 with ⟨_, hB⟩ | ⟨y, _⟩
      · obtain ⟨d', hd'⟩ : ∃ d', d = d' + 7 := ⟨d - 7, by omega⟩
        refine Tm_ob (by rw [hd']; exact b_exp hB.1) (fun r7 hr7 => ?_)
        subst hr7
        exact bw r5.2 _ N hB (by omega) (by omega) (FrM_tr hF hr5.1)
      · exact absurd y t5
    rcases hr5.2 with ⟨y, _⟩ | ⟨_, hS5⟩
    · exact absurd t5 y
    have hu24 := hu2.2.2.2 (by rw [t5.1]; decide)
    rcases gb_any hG with ⟨yf, h9, rfl⟩ | ⟨s9, h9, hG⟩
    · refine Tm_ob (H0 _ _ _ _ _ _ _ _ h9 r5.2 _ d M P hS5 h1 (by omega) (by omega) (by omega) (by omega) (by omega) trivial) (fun rx hrx => ?_)
      obtain ⟨⟨m1, hm, hmk, hMm⟩, _, hFx⟩ := hrx
      refine Tm_ob (b_wrapped (M := M) (P := P) (w := E.2.2.2.1) hm (by omega) hMm _) (fun r8 hr8 => ?_)
      exact b12 _ (m1 + 1) m1 _ (by rw [upd_same]; exact hr8.1) (by omega) (Or.inr hMm) (Bb_sn hr8.2.1 _) (by omega) (by omega) (FrM_tr hF (FrM_tr hr5.1 (FrM_tr hFx (FrM_tr hr8.2.2 (FrM_sn _)))))
    obtain ⟨⟨f1, f2, f3, f4, f5, f6, f7, f8⟩, f9⟩ := mo_of (M := M) hu2.2.1 hv2 h9 (by omega) h1 trivial (fun h => h) (fun h => h)
    refine Tm_ob (H0 _ _ _ _ _ _ _ _ h9 r5.2 _ d M P hS5 h1 (by omega) (by omega) (by omega) (by omega) (by omega) trivial) (fun rx hrx => ?_)
    obtain ⟨hSx, hrx1, hFx⟩ := hrx
    refine Tm_ob (p_wrapped (M := M) (P := P) (w := E.2.2.2.1) hSx (by omega) (by omega) _) (fun r8 hr8 => ?_)
    obtain ⟨hr81, hS8, hF8⟩ := hr8
    have w2 : (upd (upd (upd (upd (upd (fun _ => (0 : Int32)) 1 13) 2 (N 1)) 3 (N 5)) 4 (N 6)) 5 rx.1) 2 = nI g := by rw [upd_other (by decide), upd_other (by decide), upd_other (by decide), upd_same]; exact n1
    have w3 : (upd (upd (upd (upd (upd (fun _ => (0 : Int32)) 1 13) 2 (N 1)) 3 (N 5)) 4 (N 6)) 5 rx.1) 3 = hd hl := by rw [upd_other (by decide), upd_other (by decide), upd_same]; exact n5
    have w4 : (upd (upd (upd (upd (upd (fun _ => (0 : Int32)) 1 13) 2 (N 1)) 3 (N 5)) 4 (N 6)) 5 rx.1) 4 = cd := by rw [upd_other (by decide), upd_same]; exact n6
    have w5 : (upd (upd (upd (upd (upd (fun _ => (0 : Int32)) 1 13) 2 (N 1)) 3 (N 5)) 4 (N 6)) 5 rx.1) 5 = nI s9.2.2.2.1 := by rw [upd_same]; exact hrx1
    rw [w2, w3, w4, w5] at hS8
    rw [n4]
    exact g12 (upd r8.2.1 38 (nI E.2.1.length), r8.2.2.1, r8.2.2.2) s9.2.2.2.2.1.1 s9.1 s9.2.1 _ _ (by rw [upd_other (by decide), upd_other (by decide)]; exact n2) (by rw [upd_same]; exact hr81) (by rw [bWrap_1]; omega) (by omega) (PS_sn hS8) (by rw [bWrap_1]; omega) (by rw [bWrap_1]; omega) (by omega) hG (FrM_tr hF (FrM_tr hr5.1 (FrM_tr hFx (FrM_tr hF8 (FrM_sn _)))))
  -- behind the opening one
  have five : ∀ N : Nat → Int32, N 1 = nI g → N 2 = nI t → ∀ ρ : MS, ¬ o = 20 → ¬ tkK T n (tkN T n q) = 0 → PS T n E (o + 1) (tkN T n q) v b ρ → FrM M P E.2.2.2.1 σ ρ →
      (if tkK T n (tkN T n q) = t then gT T n (tkN T n q) (fun q2 => some (Sum.inr (q2, v, 0, b.1, bNode b (if g = 1 then 10 else 11) 0 (-1) 0, [])))
        else if tkK T n (tkN T n q) = 45 then gT T n (tkN T n q) (fun q2 => gb (G T n f 17 E (o + 1) q2 v 0 0 E.2.2.1.length 0 b) (fun r =>
          if tkK T n r.1 = 15 then gT T n r.1 (fun q3 => gb (G T n f 0 (seeN E r.2.2.2.2.2) (o + 1) q3 r.2.1 0 0 0 0 r.2.2.2.2.1) (fun s => gW T n 14 s.1 (fun q4 => gb (G T n f 0 (seeN E r.2.2.2.2.2) (o + 1) q4 s.2.1 0 0 0 0 s.2.2.2.2.1) (fun u => gW T n t u.1 (fun q5 => some (Sum.inr (q5, u.2.1, 0, u.2.2.2.2.1.1, bWrap u.2.2.2.2.1 13 (nI g) (hd r.2.2.2.1) (nI s.2.2.2.1) (nI u.2.2.2.1), [])))))))
          else gW T n 14 r.1 (fun q4 => gb (G T n f 0 (seeN E r.2.2.2.2.2) (o + 1) q4 r.2.1 0 0 0 0 r.2.2.2.2.1) (fun u => gW T n t u.1 (fun q5 => some (Sum.inr (q5, u.2.1, 0, u.2.2.2.2.1.1, bWrap u.2.2.2.2.1 13 (nI g) (hd r.2.2.2.1) (-1) (nI u.2.2.2.1), [])))))))
        else gb (G T n f 0 E (o + 1) (tkN T n q) v 0 0 0 0 b) (fun r =>
          if tkK T n r.1 = 16 then gT T n r.1 (fun q2 => gb (G T n f 0 E (o + 1) q2 r.2.1 0 0 0 0 r.2.2.2.2.1) (fun s => gW T n t s.1 (fun q3 => some (Sum.inr (q3, s.2.1, 0, s.2.2.2.2.1.1, bWrap s.2.2.2.2.1 12 (nI g) (nI r.2.2.2.1) (-1) (nI s.2.2.2.1), [])))))
          else gb (G T n f 15 E (o + 1) r.1 r.2.1 r.2.2.2.1 r.2.2.2.1 1 g r.2.2.2.2.1) (fun s => gW T n t s.1 (fun q3 => some (Sum.inr (q3, s.2.1, 0, s.2.2.2.1, s.2.2.2.2.1, [])))))) = some x →
      Tm (fun k => x_GE k (d + 1) 0 5 N ρ) (Po T n E o M P (b.1 + (n + 1 - q) + 3 * (d + 2)) σ x) := fun N n1 n2 ρ o0 t0 hS1 hF hG => by
    have hw := tkN_b T n (tkN T n q) hu.2.1
    refine Tm_suc (fun k => by rw [xE_0]) ?_
    refine Tm_ite (c := ρ.1 10 = 0) (fun _ => ?_) (fun z => absurd (PS_ok hS1) z)
    have n1 : upd N 3 0 1 = nI g := by rw [upd_other (by decide)]; exact n1
    have n2 : upd N 3 0 2 = nI t := by rw [upd_other (by decide)]; exact n2
    generalize upd N 3 0 = N at n1 n2
    refine Tm_suc (fun k => by rw [xE_0]) ?_
    refine Tm_ob (p_sign hS1 ht1.1 ht1.2 (by rw [upd_same]; exact n2)) (fun r1 hr1 => ?_)
    obtain ⟨u, τ⟩ := r1
    obtain ⟨h3, hr1⟩ := hr1
    have h3 : τ = ρ := h3
    subst h3
    refine Tm_ite (fun z => ?_) (fun z => ?_)
    · rw [if_neg (fun y => hr1.mpr y z)] at hG
      refine Tm_suc (fun k => by rw [xE_0]) ?_
      refine Tm_ob (p_word hS1 (s := 13) (by decide) rfl) (fun r2 hr2 => ?_)
      obtain ⟨u, τ'⟩ := r2
      obtain ⟨h3, hr2⟩ := hr2
      have h3 : τ' = τ := h3
      subst h3
      refine Tm_ite (fun z => ?_) (fun z => ?_)
      · -- members
        rw [if_neg (fun y => hr2.mpr y z)] at hG
        obtain ⟨y, hGl, hy⟩ := gLs_x hG
        refine Tm_suc (fun k => by rw [xE_0]) ?_
        show Tm (fun k => ob (x_GE k d 5 0 (upd (fun _ => 0) 1 (N 1)) τ') _) _
        obtain ⟨d', rfl⟩ : ∃ d', d = d' + 1 := ⟨d - 1, by omega⟩
        cases y with
        | inl yf =>
          have hx : x = Sum.inl yf := hy
          subst hx
          refine Tm_ob (m_listed (M := M) (P := P) (d := d') H hGl hS1 h1 hM hP (by omega) (by omega) (by omega) hg1 (by rw [upd_same]; exact n1)) (fun r7 hr7 => ?_)
          obtain ⟨⟨m1, hm, hmk, hMm⟩, ⟨l, hl1, hl2, hl3⟩, hFx⟩ := hr7
          exact b12 r7.2 m1 l _ (by rw [upd_same]; exact hl1) hl2 hl3 hm hMm (by omega) (FrM_tr hF hFx)
        | inr s =>
          obtain ⟨⟨a1, a2, a3, a4, a5, a6, a7, a8⟩, a9⟩ := gLs_mo (M := M) hu.2.1 hv hM h1 hGl
          refine Tm_ob (m_listed (M := M) (P := P) (d := d') H hGl hS1 h1 hM hP (by omega) (by omega) (by omega) hg1 (by rw [upd_same]; exact n1)) (fun r7 hr7 => ?_)
          obtain ⟨hS7, hr71, hF7⟩ := hr7
          exact g12 r7.2 s.2.2.2.1 s.1 s.2.1 _ _ (by rw [upd_other (by decide)]; exact n2) (by rw [upd_same]; exact hr71) a9.2 a9.1 hS7 (by omega) (by omega) (by omega) hy (FrM_tr hF hF7)
      · -- a former
        have hK45 := hr2.mp z
        rw [if_pos hK45] at hG
        have hw4 := hw.2.2.2 (by rw [hK45]; decide)
        refine Tm_ob (p_take (M := M) (P := P) (w := E.2.2.2.1) hS1 _) (fun r3 hr3 => ?_)
        have hF3 := FrM_tr hF hr3.1
        show Tm (fun k => ob (x_GE k d 4 0 (upd (fun _ => 0) 1 0) r3.2) _) _
        rcases gT_any hG with ⟨t3, rfl⟩ | ⟨t3, hG⟩
        · rcases hr3.2 with ⟨_, hB⟩ | ⟨y, _⟩
          · refine Tm_ob (b_iters hB.1) (fun r4 hr4 => ?_)
            obtain ⟨hr4, _⟩ := hr4
            have hB4 := Bb_r4 (hr4.trans rfl) hB
            refine Tm_ite (c := r4.2.1 10 = 0) (fun z => absurd z hB4.1) (fun _ => ?_)
            exact b10 r4.2 b.1 _ hB4 hM (by omega) (FrM_tr hF3 (by rw [hr4]; exact FrM_sc (fun j hj => upd_other (by omega))))
          · exact absurd t3 y
        rcases hr3.2 with ⟨y, _⟩ | ⟨_, hS3⟩
        · exact absurd y t3
        have h38 : r3.2.1 38 = nI E.2.1.length := hS3.2.2.2.2.1.1.1
        rw [h38]
        rcases gb_any hG with ⟨yf, h7, rfl⟩ | ⟨s, h7, hG⟩
        · refine Tm_ob (m_iters (M := M) (P := P) H17 h7 hS3 h1 hM hP (by omega) (by omega) (by omega) (by decide) rfl) (fun r4 hr4 => ?_)
          obtain ⟨⟨m, k1, k2, k3⟩, k4⟩ := hr4
          refine Tm_ite (c := r4.2.1 10 = 0) (fun z => absurd z k1.1) (fun _ => ?_)
          exact b10 r4.2 m _ k1 k3 (by omega) (FrM_tr hF3 k4)
        obtain ⟨x1, x2⟩ := g_mono T n f 17 _ _ _ _ _ _ _ _ _ s hw.2.1 hv h7 M hM h1 (Or.inl rfl)
        obtain ⟨a1, a2, a3, a4, a5, a6, a7, a8⟩ := (x1 : Mo n _ _ _ s)
        have a9 : M ≤ s.2.2.2.1 ∧ s.2.2.2.1 < s.2.2.2.2.1.1 := x2
        refine Tm_ob (m_iters (M := M) (P := P) H17 h7 hS3 h1 hM hP (by omega) (by omega) (by omega) (by decide) rfl) (fun r4 hr4 => ?_)
        obtain ⟨hS4, hr41, hF4⟩ := hr4
        have hv4 := PS_v hS4
        have hF4 : FrM M P E.2.2.2.1 σ r4.2 := FrM_tr hF3 hF4
        have hws := tkN_b T n s.1 a2
        refine Tm_ite (c := r4.2.1 10 = 0) (fun _ => ?_) (fun z => absurd (PS_ok hS4) z)
        refine Tm_ob (p_sign hS4 (s := 15) (by decide) (by decide) rfl) (fun r6 hr6 => ?_)
        obtain ⟨u, τ4⟩ := r6
        obtain ⟨h3, hr6⟩ := hr6
        have h3 : τ4 = r4.2 := h3
        subst h3
        refine Tm_ite (fun z => ?_) (fun z => ?_)
        · rw [if_neg (fun y => hr6.mpr y z)] at hG
          refine g10 r4.2 _ s.2.2.2.2.2 s.1 s.2.1 s.2.2.2.1 (-1) s.2.2.2.2.1 ?_ ?_ ?_ ?_ ?_ hS4 (by omega) (by omega) (by omega) (by omega) (by omega) hF4 hG
          · rw [upd_other (by decide), upd_other (by decide), upd_other (by decide)]; exact n1
          · rw [upd_other (by decide), upd_other (by decide), upd_other (by decide)]; exact n2
          · rw [upd_other (by decide), upd_other (by decide), upd_same]
          · rw [upd_other (by decide), upd_same, hr41, hd_pos (by omega)]
          · rw [upd_same]
        have hK15 := hr6.mp z
        rw [if_pos hK15] at hG
        have hws4 := hws.2.2.2 (by rw [hK15]; decide)
        refine Tm_ob (p_take (M := M) (P := P) (w := E.2.2.2.1) hS4 _) (fun r8 hr8 => ?_)
        have hF8 := FrM_tr hF4 hr8.1
        show Tm (fun k => ob (x_GE k d 3 0 (fun _ => 0) r8.2) _) _
        rcases gT_any hG with ⟨t8, rfl⟩ | ⟨t8, hG⟩
        · rcases hr8.2 with ⟨_, hB⟩ | ⟨y, _⟩
          · obtain ⟨d', hd'⟩ : ∃ d', d = d' + 7 := ⟨d - 7, by omega⟩
            refine Tm_ob (by rw [hd']; exact b_exp hB.1) (fun r7 hr7 => ?_)
            subst hr7
            exact b10 r8.2 _ _ hB (by omega) (by omega) hF8
          · exact absurd t8 y
        rcases hr8.2 with ⟨y, _⟩ | ⟨_, hS8⟩
        · exact absurd y t8
        rcases gb_any hG with ⟨yf, h9, rfl⟩ | ⟨s9, h9, hG⟩
        · refine Tm_ob (H0 _ _ _ _ _ _ _ _ h9 r8.2 _ d M P hS8 h1 (by omega) (by omega) (by omega) (by omega) (by omega) trivial) (fun rx hrx => ?_)
          obtain ⟨⟨m1, hm, hmk, hMm⟩, _, hFx⟩ := hrx
          exact b10 rx.2 m1 _ hm hMm (by omega) (FrM_tr hF8 hFx)
        obtain ⟨⟨f1, f2, f3, f4, f5, f6, f7, f8⟩, f9⟩ := mo_of (M := M) hws.2.1 hv4 h9 (by omega) h1 trivial (fun h => h) (fun h => h)
        refine Tm_ob (H0 _ _ _ _ _ _ _ _ h9 r8.2 _ d M P hS8 h1 (by omega) (by omega) (by omega) (by omega) (by omega) trivial) (fun rx hrx => ?_)
        obtain ⟨hSx, hrx1, hFx⟩ := hrx
        refine g10 rx.2 _ s.2.2.2.2.2 s9.1 s9.2.1 s.2.2.2.1 (nI s9.2.2.2.1) s9.2.2.2.2.1 ?_ ?_ ?_ ?_ ?_ hSx (by omega) (by omega) (by omega) (by omega) (by omega) (FrM_tr hF8 hFx) hG
        · rw [upd_other (by decide), upd_other (by decide), upd_other (by decide)]; exact n1
        · rw [upd_other (by decide), upd_other (by decide), upd_other (by decide)]; exact n2
        · rw [upd_other (by decide), upd_other (by decide), upd_same]
        · rw [upd_other (by decide), upd_same, hr41, hd_pos (by omega)]
        · rw [upd_same]; exact hrx1
    · -- empty
      have hKt := hr1.mp z
      rw [if_pos hKt] at hG
      have hw4 := hw.2.2.2 (by omega)
      have last : ∀ N' : Nat → Int32, N' 100 = (if g = 1 then 10 else 11) → N' 2 = nI t → Tm (fun k => x_GE k (d + 1) 0 8 N' τ) (Po T n E o M P (b.1 + (n + 1 - q) + 3 * (d + 2)) σ x) := fun N' j1 j2 => by
        refine Tm_suc (fun k => by rw [xE_0]) ?_
        refine Tm_ob (p_node (M := M) (P := P) (w := E.2.2.2.1) hS1 (by omega) hM _) (fun r8 hr8 => ?_)
        obtain ⟨hr81, hS8, hF8⟩ := hr8
        have w1 : (upd (upd (upd (upd (fun _ => (0 : Int32)) 1 (N' 100)) 2 0) 3 (-1)) 4 0) 1 = (if g = 1 then 10 else 11) := by rw [upd_other (by decide), upd_other (by decide), upd_other (by decide), upd_same]; exact j1
        rw [w1] at hS8
        refine g12 r8.2 b.1 (tkN T n q) v _ _ (by rw [upd_other (by decide)]; exact j2) (by rw [upd_same]; exact hr81) (by rw [bNode_1]; omega) hM hS8 (by rw [bNode_1]; omega) (by rw [bNode_1]; omega) hu4 ?_ (FrM_tr hF hF8)
        unfold gW
        rw [if_pos hKt]
        exact hG
      refine Tm_ite (c := N 1 = 1) (fun y => ?_) (fun y => ?_)
      · rw [n1] at y
        have y : nI g = nI 1 := y
        rw [n_eq (by omega) (by omega)] at y
        exact last _ (by rw [upd_same, if_pos y]) (by rw [upd_other (by decide)]; exact n2)
      · rw [n1] at y
        have y : ¬ nI g = nI 1 := y
        rw [n_eq (by omega) (by omega)] at y
        refine Tm_suc (fun k => by rw [xE_0]) ?_
        exact last _ (by rw [upd_same, if_neg y]) (by rw [upd_other (by decide)]; exact n2)
  have b5 : ∀ {yf : Nat × Nat} (ρ : MS) (N : Nat → Int32), Bb yf b.1 ρ → FrM M P E.2.2.2.1 σ ρ → Tm (fun k => x_GE k (d + 1) 0 5 N ρ) (Po T n E o M P (b.1 + (n + 1 - q) + 3 * (d + 2)) σ (Sum.inl yf)) := fun {yf} ρ N hB hF => by
    refine Tm_suc (fun k => by rw [xE_0]) ?_
    exact Tm_ite (c := ρ.1 10 = 0) (fun z => absurd z hB.1) (fun _ => Tm_some ⟨⟨_, hB, by omega, hM⟩, ⟨0, rfl, by decide, Or.inl rfl⟩, hF⟩)
  have four : ∀ N : Nat → Int32, N 1 = nI g → N 100 = nI t → Tm (fun k => x_GE k (d + 1) 0 4 N σ) (Po T n E o M P (b.1 + (n + 1 - q) + 3 * (d + 2)) σ x) := fun N n1 n100 => by
    refine Tm_suc (fun k => by rw [xE_0]) ?_
    refine Tm_ob (p_open (M := M) (P := P) (w := E.2.2.2.1) hS _) (fun r1 hr1 => ?_)
    rcases gO_any hG with ⟨o0, rfl⟩ | ⟨o0, hG⟩
    · rcases hr1.2 with ⟨_, hB⟩ | ⟨y, _⟩
      · exact Tm_ite (c := r1.2.1 10 = 0) (fun c => absurd c hB.1) (fun _ => b5 r1.2 _ hB hr1.1)
      · omega
    rcases hr1.2 with ⟨y, _⟩ | ⟨ho2, hS1, h13⟩
    · exact absurd y o0
    refine Tm_ite (c := r1.2.1 10 = 0) (fun _ => ?_) (fun c => absurd (PS_ok hS1) c)
    refine Tm_ob (p_take (M := M) (P := P) (w := E.2.2.2.1) hS1 _) (fun r3 hr3 => ?_)
    rcases gT_any hG with ⟨t3, rfl⟩ | ⟨t3, hG⟩
    · rcases hr3.2 with ⟨_, hB⟩ | ⟨y, _⟩
      · exact b5 r3.2 _ hB (FrM_tr hr1.1 hr3.1)
      · exact absurd t3 y
    rcases hr3.2 with ⟨y, _⟩ | ⟨_, hS3⟩
    · exact absurd y t3
    exact five _ (by rw [upd_other (by decide)]; exact n1) (by rw [upd_same]; exact n100) r3.2 o0 t3 hS3 (FrM_tr hr1.1 hr3.1) hG
  have two : ∀ N : Nat → Int32, N 100 = nI g → Tm (fun k => x_GE k (d + 1) 0 2 N σ) (Po T n E o M P (b.1 + (n + 1 - q) + 3 * (d + 2)) σ x) := fun N n100 => by
    refine Tm_suc (fun k => by rw [xE_0]) ?_
    refine Tm_ite (c := N 100 = 1) (fun y => ?_) (fun y => ?_)
    · rw [n100] at y
      have y : nI g = nI 1 := y
      rw [n_eq (by omega) (by omega)] at y
      have := hgk.mp y
      exact four _ (by rw [upd_other (by decide), upd_same]; exact n100) (by rw [upd_same, show t = 9 by omega]; rfl)
    · rw [n100] at y
      have y : ¬ nI g = nI 1 := y
      rw [n_eq (by omega) (by omega)] at y
      have : ¬ tkK T n q = 8 := fun z => y (hgk.mpr z)
      refine Tm_suc (fun k => by rw [xE_0]) ?_
      exact four _ (by rw [upd_other (by decide), upd_same]; exact n100) (by rw [upd_same, show t = 11 by omega]; rfl)
  refine Tm_suc (fun k => by rw [xE_0]) ?_
  refine Tm_ob (p_sign hS (s := 8) (by decide) (by decide) rfl) (fun r0 hr0 => ?_)
  obtain ⟨u, τ⟩ := r0
  obtain ⟨h3, hr0⟩ := hr0
  have h3 : τ = σ := h3
  subst h3
  refine Tm_ite (fun z => ?_) (fun z => ?_)
  · refine Tm_suc (fun k => by rw [xE_0]) ?_
    exact two _ (by rw [upd_same, show g = 0 by have : ¬ g = 1 := fun y => hr0.mpr (hgk.mp y) z; omega]; rfl)
  · exact two _ (by rw [upd_same, hgk.mpr (hr0.mp z)]; rfl)
end BRK
end JnS45
section JnS46
variable {yf : Nat × Nat}
/-! if .. then .. else .. end, of exps. -/
section CH
variable {T : Nat → Int32} {n o M P d : Nat} {E : En}
theorem mSet_9 {σ : MS} {l : Nat} {x : Int32} : (mSet σ 9 l x).2.2 9 l = x := by
  show updG σ.2.2 9 (upd (σ.2.2 9) l x) 9 l = x
  rw [updG_same, upd_same]
/-- elseifs -/
theorem ch_loop : ∀ (f : Nat), (∀ f', f' < f → S0 T n f') → ∀ (q v i e : Nat) (b : BT) (y : Fl RT), G T n f 16 E o q v i e 0 0 b = some y → ∀ (σ : MS) (N : Nat → Int32) (Q : Int32 × MS → Prop), PS T n E o q v b σ → 1 ≤ M → M ≤ b.1 → P ≤ b.2.1 → b.1 + (n + 1 - q) + 3 * (d + 3) ≤ 70000 → b.2.1 + (n - q) ≤ 70000 → 12 * (21 - o) + 11 ≤ d → N 4 = nI e → M ≤ e → e < b.1 →
    (∀ (ρ : MS) (N' : Nat → Int32) (l : Nat), N' 3 = N 3 → N' 4 = nI l → l < 70000 → M ≤ l → FrM M P E.2.2.2.1 σ ρ → (match y with
      | Sum.inl yf => ∃ m, Bb yf m ρ ∧ M ≤ m ∧ m ≤ b.1 + (n + 1 - q) + 3 * (d + 1) + 1
      | Sum.inr s => PS T n E o s.1 s.2.1 s.2.2.2.2.1 ρ ∧ l = s.2.2.2.1) → Tm (fun k => x_GE k (d + 1) 1 4 N' ρ) Q) → Tm (fun k => x_GE k (d + 1) 1 2 N σ) Q
  | 0 => fun _ q v i e b y hG => by simp only [G] at hG; cases hG
  | f + 1 => fun H q v i e b y hG σ N Q hS h1 hM hP hn hp hdd hN4 e1 e2 hout => by
    rw [G_16] at hG
    have hq := PS_q hS
    have hv := PS_v hS
    have hu := tkN_b T n q hq.1
    have ih := ch_loop f (fun f' hf' => H f' (by omega))
    have H0 := H f (by omega)
    -- a node and its link, behind a fault; then out
    have bn : ∀ {yf : Nat × Nat} (ρ : MS) (m : Nat) (Z : Nat → Int32) (x1 x2 : Int32), y = Sum.inl yf → Bb yf m ρ → M ≤ m → m + 1 ≤ b.1 + (n + 1 - q) + 3 * (d + 1) + 1 → FrM M P E.2.2.2.1 σ ρ → Tm (fun k => ob (x_node k 0 Z ρ) (fun r8 => if ¬ (N 4 < 0 ∨ 70000 ≤ (N 4).toNatClampNeg) then x_GE k (d + 1) 1 3 (upd (upd N 1 x1) 2 x2) (r8.2.1, r8.2.2.1, updG r8.2.2.2 9 (upd (r8.2.2.2 9) (N 4).toNatClampNeg r8.1)) else none)) Q := fun {yf} ρ m Z x1 x2 hy hB hMm hm hF => by
      subst hy
      refine Tm_ob (b_node (M := M) (P := P) (w := E.2.2.2.1) hB (by omega) hMm _) (fun r8 hr8 => ?_)
      rw [hN4]
      refine Tm_chk (n_in (by omega) (by omega)) ?_
      rw [n_cl (p := e) (by omega)]
      have hB9 : Bb yf (m + 1) (mSet r8.2 9 e r8.1) := Bb_set hr8.2.1
      have hF9 : FrM M P E.2.2.2.1 σ (mSet r8.2 9 e r8.1) := FrM_tr hF (FrM_tr hr8.2.2 (FrM_set (by decide) (by decide) (Or.inr e1) _))
      have j4 : upd (upd N 1 x1) 2 x2 4 = nI e := by rw [upd_other (by decide), upd_other (by decide)]; exact hN4
      have j3 : upd (upd N 1 x1) 2 x2 3 = N 3 := by rw [upd_other (by decide), upd_other (by decide)]
      generalize upd (upd N 1 x1) 2 x2 = N1 at j4 j3
      show Tm (fun k => x_GE k (d + 1) 1 3 N1 (mSet r8.2 9 e r8.1)) Q
      refine Tm_suc (fun k => by rw [xE_1]) ?_
      show Tm (fun k => if ¬ (N1 4 < 0 ∨ 70000 ≤ (N1 4).toNatClampNeg) then x_GE k (d + 1) 1 2 (upd N1 4 ((mSet r8.2 9 e r8.1).2.2 9 (N1 4).toNatClampNeg)) (mSet r8.2 9 e r8.1) else none) Q
      rw [j4]
      refine Tm_chk (n_in (by omega) (by omega)) ?_
      rw [n_cl (p := e) (by omega), mSet_9, hr8.1]
      refine Tm_suc (fun k => by rw [xE_1]) ?_
      refine Tm_ite (c := (mSet r8.2 9 e (nI m)).1 10 = 0) (fun z => absurd z hB9.1) (fun _ => ?_)
      rw [← hr8.1]
      exact hout _ _ m (by rw [upd_other (by decide)]; exact j3) (by rw [upd_same]; exact hr8.1) (by omega) hMm hF9 ⟨m + 1, hB9, by omega, hm⟩
    -- from then on, behind a fault
    have bt : ∀ {yf : Nat × Nat} (ρ : MS) (m : Nat) (x1 : Int32), y = Sum.inl yf → Bb yf m ρ → M ≤ m → m + 1 ≤ b.1 + (n + 1 - q) + 3 * (d + 1) + 1 → FrM M P E.2.2.2.1 σ ρ → Tm (fun k => ob (x_wantWord k 0 (upd (fun _ => 0) 1 8) ρ) (fun r6 => ob (x_GE k d 3 0 (fun _ => 0) r6.2) (fun r7 => ob (x_node k 0 (upd (upd (upd (upd (fun _ => 0) 1 33) 2 x1) 3 r7.1) 4 0) r7.2) (fun r8 => if ¬ (N 4 < 0 ∨ 70000 ≤ (N 4).toNatClampNeg) then x_GE k (d + 1) 1 3 (upd (upd N 1 x1) 2 r7.1) (r8.2.1, r8.2.2.1, updG r8.2.2.2 9 (upd (r8.2.2.2 9) (N 4).toNatClampNeg r8.1)) else none)))) Q := fun {yf} ρ m x1 hy hB hMm hm hF => by
      refine Tm_ob (b_wantWord hB.1 _) (fun r1 hr1 => ?_)
      obtain ⟨u, τ⟩ := r1
      have hr1 : τ = ρ := hr1
      subst hr1
      obtain ⟨d', hd'⟩ : ∃ d', d = d' + 7 := ⟨d - 7, by omega⟩
      refine Tm_ob (by rw [hd']; exact b_exp hB.1) (fun r7 hr7 => ?_)
      subst hr7
      exact bn τ m _ _ _ hy hB hMm hm hF
    refine Tm_suc (fun k => by rw [xE_1]) ?_
    refine Tm_ite (c := σ.1 10 = 0) (fun _ => ?_) (fun z => absurd (PS_ok hS) z)
    refine Tm_ob (p_word hS (s := 9) (by decide) rfl) (fun r2 hr2 => ?_)
    obtain ⟨u, τ⟩ := r2
    obtain ⟨h3, hr2⟩ := hr2
    have h3 : τ = σ := h3
    subst h3
    refine Tm_ite (fun z => ?_) (fun z => ?_)
    · rw [if_neg (fun y => hr2.mpr y z)] at hG
      cases hG
      exact hout τ N e rfl hN4 (by omega) e1 FrM_rf ⟨hS, rfl⟩
    have hK := hr2.mp z
    rw [if_pos hK] at hG
    have hu4 := hu.2.2.2 (by rw [hK]; decide)
    refine Tm_ob (p_take (M := M) (P := P) (w := E.2.2.2.1) hS _) (fun r4 hr4 => ?_)
    show Tm (fun k => ob (x_GE k d 3 0 (fun _ => 0) r4.2) (fun r5 => ob (x_wantWord k 0 (upd (fun _ => 0) 1 8) r5.2) (fun r6 => ob (x_GE k d 3 0 (fun _ => 0) r6.2) (fun r7 => ob (x_node k 0 (upd (upd (upd (upd (fun _ => 0) 1 33) 2 r5.1) 3 r7.1) 4 0) r7.2) (fun r8 => if ¬ (N 4 < 0 ∨ 70000 ≤ (N 4).toNatClampNeg) then x_GE k (d + 1) 1 3 (upd (upd N 1 r5.1) 2 r7.1) (r8.2.1, r8.2.2.1, updG r8.2.2.2 9 (upd (r8.2.2.2 9) (N 4).toNatClampNeg r8.1)) else none))))) Q
    rcases gT_any hG with ⟨t4, hy⟩ | ⟨t4, hG⟩
    · rcases hr4.2 with ⟨_, hB⟩ | ⟨z, _⟩
      · obtain ⟨d', hd'⟩ : ∃ d', d = d' + 7 := ⟨d - 7, by omega⟩
        refine Tm_ob (by rw [hd']; exact b_exp hB.1) (fun r7 hr7 => ?_)
        subst hr7
        exact bt r4.2 b.1 0 hy hB hM (by omega) hr4.1
      · exact absurd t4 z
    rcases hr4.2 with ⟨z, _⟩ | ⟨_, hS4⟩
    · exact absurd z t4
    rcases gb_any hG with ⟨yf, h5, hy⟩ | ⟨s, h5, hG⟩
    · refine Tm_ob (H0 _ _ _ _ _ _ _ _ h5 r4.2 _ d M P hS4 h1 hM hP (by omega) (by omega) (by omega) trivial) (fun r5 hr5 => ?_)
      obtain ⟨⟨m1, hm, hmk, hMm⟩, _, hF5⟩ := hr5
      exact bt r5.2 m1 r5.1 hy hm hMm (by omega) (FrM_tr hr4.1 hF5)
    obtain ⟨⟨a1, a2, a3, a4, a5, a6, a7, a8⟩, a9⟩ := mo_of (M := M) hu.2.1 hv h5 hM h1 trivial (fun h => h) (fun h => h)
    refine Tm_ob (H0 _ _ _ _ _ _ _ _ h5 r4.2 _ d M P hS4 h1 hM hP (by omega) (by omega) (by omega) trivial) (fun r5 hr5 => ?_)
    obtain ⟨hS5, hr51, hF5⟩ := hr5
    have hv5 := PS_v hS5
    have hws := tkN_b T n s.1 a2
    refine Tm_ob (p_wantWord (M := M) (P := P) (w := E.2.2.2.1) hS5 (s := 8) (by decide) rfl) (fun r6 hr6 => ?_)
    have hF6 := FrM_tr hr4.1 (FrM_tr hF5 hr6.1)
    rcases gW_any hG with ⟨t6, hy⟩ | ⟨t6, hG⟩
    · rcases hr6.2 with ⟨_, hB⟩ | ⟨z, _⟩
      · obtain ⟨d', hd'⟩ : ∃ d', d = d' + 7 := ⟨d - 7, by omega⟩
        refine Tm_ob (by rw [hd']; exact b_exp hB.1) (fun r7 hr7 => ?_)
        subst hr7
        exact bn r6.2 s.2.2.2.2.1.1 _ _ _ hy hB (by omega) (by omega) hF6
      · exact absurd z t6
    rcases hr6.2 with ⟨z, _⟩ | ⟨_, hS6⟩
    · exact absurd t6 z
    have hws4 := hws.2.2.2 (by rw [t6.1]; decide)
    rcases gb_any hG with ⟨yf, h7, hy⟩ | ⟨s7, h7, hG⟩
    · refine Tm_ob (H0 _ _ _ _ _ _ _ _ h7 r6.2 _ d M P hS6 h1 (by omega) (by omega) (by omega) (by omega) (by omega) trivial) (fun r7 hr7 => ?_)
      obtain ⟨⟨m1, hm, hmk, hMm⟩, _, hF7⟩ := hr7
      exact bn r7.2 m1 _ _ _ hy hm hMm (by omega) (FrM_tr hF6 hF7)
    obtain ⟨⟨f1, f2, f3, f4, f5, f6, f7, f8⟩, f9⟩ := mo_of (M := M) hws.2.1 hv5 h7 (by omega) h1 trivial (fun h => h) (fun h => h)
    refine Tm_ob (H0 _ _ _ _ _ _ _ _ h7 r6.2 _ d M P hS6 h1 (by omega) (by omega) (by omega) (by omega) (by omega) trivial) (fun r7 hr7 => ?_)
    obtain ⟨hS7, hr71, hF7⟩ := hr7
    refine Tm_ob (p_node (M := M) (P := P) (w := E.2.2.2.1) hS7 (by omega) (by omega) _) (fun r8 hr8 => ?_)
    obtain ⟨hr81, hS8, hF8⟩ := hr8
    have w2 : (upd (upd (upd (upd (fun _ => (0 : Int32)) 1 33) 2 r5.1) 3 r7.1) 4 0) 2 = nI s.2.2.2.1 := by rw [upd_other (by decide), upd_other (by decide), upd_same]; exact hr51
    have w3 : (upd (upd (upd (upd (fun _ => (0 : Int32)) 1 33) 2 r5.1) 3 r7.1) 4 0) 3 = nI s7.2.2.2.1 := by rw [upd_other (by decide), upd_same]; exact hr71
    rw [w2, w3] at hS8
    rw [hN4, hr81]
    refine Tm_chk (n_in (by omega) (by omega)) ?_
    rw [n_cl (p := e) (by omega)]
    have hS9 := PS_set (l := e) hS8 (j := 9) (by decide) (by decide) (nI s7.2.2.2.2.1.1)
    have hF9 : FrM M P E.2.2.2.1 τ (mSet r8.2 9 e (nI s7.2.2.2.2.1.1)) := FrM_tr hF6 (FrM_tr hF7 (FrM_tr hF8 (FrM_set (by decide) (by decide) (Or.inr e1) _)))
    have j4 : upd (upd N 1 r5.1) 2 r7.1 4 = nI e := by rw [upd_other (by decide), upd_other (by decide)]; exact hN4
    have j3 : upd (upd N 1 r5.1) 2 r7.1 3 = N 3 := by rw [upd_other (by decide), upd_other (by decide)]
    generalize upd (upd N 1 r5.1) 2 r7.1 = N1 at j4 j3
    show Tm (fun k => x_GE k (d + 1) 1 3 N1 (mSet r8.2 9 e (nI s7.2.2.2.2.1.1))) Q
    refine Tm_suc (fun k => by rw [xE_1]) ?_
    show Tm (fun k => if ¬ (N1 4 < 0 ∨ 70000 ≤ (N1 4).toNatClampNeg) then x_GE k (d + 1) 1 2 (upd N1 4 ((mSet r8.2 9 e (nI s7.2.2.2.2.1.1)).2.2 9 (N1 4).toNatClampNeg)) (mSet r8.2 9 e (nI s7.2.2.2.2.1.1)) else none) Q
    rw [j4]
    refine Tm_chk (n_in (by omega) (by omega)) ?_
    rw [n_cl (p := e) (by omega), mSet_9]
    refine ih _ _ _ _ _ y hG (mSet r8.2 9 e (nI s7.2.2.2.2.1.1)) _ Q hS9 h1 (by rw [bSet_1, bNode_1]; omega) (by rw [bSet_p, bNode_p]; omega) (by rw [bSet_1, bNode_1]; omega) (by rw [bSet_p, bNode_p]; omega) hdd upd_same (by omega) (by rw [bSet_1, bNode_1]; omega) (fun ρ N' l k3 k4 hl hMl hF hm => ?_)
    refine hout ρ N' l (k3.trans (by rw [upd_other (by decide)]; exact j3)) k4 hl hMl (FrM_tr hF9 hF) ?_
    cases y with
    | inl yf => obtain ⟨m, m1, m2, m3⟩ := hm; exact ⟨m, m1, m2, by rw [bSet_1, bNode_1] at m3; omega⟩
    | inr t => exact hm
set_option maxHeartbeats 8000000 in
theorem m_choice {f q v : Nat} {b : BT} {x : Fl RT} {σ : MS} {L : Nat → Int32} (H : ∀ f', f' ≤ f → S0 T n f')
    (hG : gO o q (gT T n q (fun q1 => gb (G T n f 0 E (o + 1) q1 v 0 0 0 0 b) (fun r => gW T n 40 r.1 (fun q2 => gb (G T n f 0 E (o + 1) q2 r.2.1 0 0 0 0 r.2.2.2.2.1) (fun s => gb (G T n f 16 E (o + 1) s.1 s.2.1 s.2.2.2.2.1.1 s.2.2.2.2.1.1 0 0 (bNode s.2.2.2.2.1 33 (nI r.2.2.2.1) (nI s.2.2.2.1) 0)) (fun t => gW T n 42 t.1 (fun q3 => gb (G T n f 0 E (o + 1) q3 t.2.1 0 0 0 0 t.2.2.2.2.1) (fun u => gW T n 38 u.1 (fun q4 => some (Sum.inr (q4, u.2.1, 0, u.2.2.2.2.1.1 + 1, bNode (bSet (bNode u.2.2.2.2.1 33 (-1) (nI u.2.2.2.1) 0) 9 t.2.2.2.1 (nI u.2.2.2.2.1.1)) 15 0 (nI s.2.2.2.2.1.1) 0, []))))))))))) = some x)
    (hK : ¬ tkK T n q = 25) (hS : PS T n E o q v b σ) (h1 : 1 ≤ M) (hM : M ≤ b.1) (hP : P ≤ b.2.1) (hn : b.1 + (n + 1 - q) + 3 * (d + 3) ≤ 70000) (hp : b.2.1 + (n - q) ≤ 70000) (hdd : 12 * (21 - o) + 1 ≤ d + 1) : Tm (fun k => x_GE k (d + 1) 1 0 L σ) (Po T n E o M P (b.1 + (n + 1 - q) + 3 * (d + 2)) σ x) := by
  have hq := PS_q hS
  have hv := PS_v hS
  have ho := PS_o hS
  have hu := tkN_b T n q hq.1
  have hu4 := hu.2.2.2 hK
  have H0 := H f (Nat.le_refl _)
  have b5 : ∀ {yf : Nat × Nat} (ρ : MS) (m : Nat) (N : Nat → Int32), Bb yf m ρ → M ≤ m → m + 1 ≤ b.1 + (n + 1 - q) + 3 * (d + 2) → FrM M P E.2.2.2.1 σ ρ → Tm (fun k => x_GE k (d + 1) 1 5 N ρ) (Po T n E o M P (b.1 + (n + 1 - q) + 3 * (d + 2)) σ (Sum.inl yf)) := fun {yf} ρ m N hB hMm hm hF => by
    refine Tm_suc (fun k => by rw [xE_1]) ?_
    refine Tm_ob (b_wantWord hB.1 _) (fun r1 hr1 => ?_)
    obtain ⟨u, τ⟩ := r1
    have hr1 : τ = ρ := hr1
    subst hr1
    show Tm (fun k => x_GE k (d + 1) 1 6 N (mOpn τ (τ.1 13 - 1))) _
    refine Tm_suc (fun k => by rw [xE_1]) ?_
    refine Tm_ob (b_node (M := M) (P := P) (w := E.2.2.2.1) (Bb_opn hB _) (by omega) hMm _) (fun r8 hr8 => ?_)
    exact Tm_some ⟨⟨_, hr8.2.1, hm, by omega⟩, ⟨_, hr8.1, by omega, Or.inr hMm⟩, FrM_tr hF (FrM_tr (FrM_opn _) hr8.2.2)⟩
  -- the node of else, behind a fault
  have bn : ∀ {yf : Nat × Nat} (ρ : MS) (m l : Nat) (N Z : Nat → Int32) (x2 : Int32), N 4 = nI l → l < 70000 → M ≤ l → Bb yf m ρ → M ≤ m → m + 2 ≤ b.1 + (n + 1 - q) + 3 * (d + 2) → FrM M P E.2.2.2.1 σ ρ → Tm (fun k => ob (x_node k 0 Z ρ) (fun r3 => if ¬ (N 4 < 0 ∨ 70000 ≤ (N 4).toNatClampNeg) then x_GE k (d + 1) 1 5 (upd N 2 x2) (r3.2.1, r3.2.2.1, updG r3.2.2.2 9 (upd (r3.2.2.2 9) (N 4).toNatClampNeg r3.1)) else none)) (Po T n E o M P (b.1 + (n + 1 - q) + 3 * (d + 2)) σ (Sum.inl yf)) := fun {yf} ρ m l N Z x2 hN4 hl hMl hB hMm hm hF => by
    refine Tm_ob (b_node (M := M) (P := P) (w := E.2.2.2.1) hB (by omega) hMm _) (fun r8 hr8 => ?_)
    rw [hN4]
    refine Tm_chk (n_in (by omega) (by omega)) ?_
    rw [n_cl (p := l) (by omega)]
    exact b5 (mSet r8.2 9 l r8.1) (m + 1) _ (Bb_set hr8.2.1) (by omega) (by omega) (FrM_tr hF (FrM_tr hr8.2.2 (FrM_set (by decide) (by decide) (Or.inr hMl) _)))
  have b4 : ∀ {yf : Nat × Nat} (ρ : MS) (m l : Nat) (N : Nat → Int32), N 4 = nI l → l < 70000 → M ≤ l → Bb yf m ρ → M ≤ m → m + 2 ≤ b.1 + (n + 1 - q) + 3 * (d + 2) → FrM M P E.2.2.2.1 σ ρ → Tm (fun k => x_GE k (d + 1) 1 4 N ρ) (Po T n E o M P (b.1 + (n + 1 - q) + 3 * (d + 2)) σ (Sum.inl yf)) := fun {yf} ρ m l N hN4 hl hMl hB hMm hm hF => by
    refine Tm_suc (fun k => by rw [xE_1]) ?_
    refine Tm_ob (b_wantWord hB.1 _) (fun r1 hr1 => ?_)
    obtain ⟨u, τ⟩ := r1
    have hr1 : τ = ρ := hr1
    subst hr1
    show Tm (fun k => ob (x_GE k d 3 0 (fun _ => 0) τ) _) _
    obtain ⟨d', hd'⟩ : ∃ d', d = d' + 7 := ⟨d - 7, by omega⟩
    refine Tm_ob (by rw [hd']; exact b_exp hB.1) (fun r7 hr7 => ?_)
    subst hr7
    exact bn τ m l N _ _ hN4 hl hMl hB hMm hm hF
  -- the first node, behind a fault
  have bf : ∀ {yf : Nat × Nat} (ρ : MS) (m : Nat) (Z N : Nat → Int32) (x1 x2 : Int32), Bb yf m ρ → M ≤ m → m + 3 ≤ b.1 + (n + 1 - q) + 3 * (d + 2) → FrM M P E.2.2.2.1 σ ρ → Tm (fun k => ob (x_node k 0 Z ρ) (fun r4 => x_GE k (d + 1) 1 2 (upd (upd (upd (upd N 1 x1) 2 x2) 3 r4.1) 4 r4.1) r4.2)) (Po T n E o M P (b.1 + (n + 1 - q) + 3 * (d + 2)) σ (Sum.inl yf)) := fun {yf} ρ m Z N x1 x2 hB hMm hm hF => by
    refine Tm_ob (b_node (M := M) (P := P) (w := E.2.2.2.1) hB (by omega) hMm _) (fun r8 hr8 => ?_)
    refine Tm_suc (fun k => by rw [xE_1]) ?_
    refine Tm_ite (c := r8.2.1 10 = 0) (fun z => absurd z hr8.2.1.1) (fun _ => ?_)
    exact b4 r8.2 (m + 1) m _ (by rw [upd_same]; exact hr8.1) (by omega) hMm hr8.2.1 (by omega) (by omega) (FrM_tr hF hr8.2.2)
  have b1 : ∀ {yf : Nat × Nat} (ρ : MS) (N : Nat → Int32), Bb yf b.1 ρ → FrM M P E.2.2.2.1 σ ρ → Tm (fun k => x_GE k (d + 1) 1 1 N ρ) (Po T n E o M P (b.1 + (n + 1 - q) + 3 * (d + 2)) σ (Sum.inl yf)) := fun {yf} ρ N hB hF => by
    refine Tm_suc (fun k => by rw [xE_1]) ?_
    show Tm (fun k => ob (x_GE k d 3 0 (fun _ => 0) ρ) (fun r1 => ob (x_wantWord k 0 (upd (fun _ => 0) 1 8) r1.2) (fun r2 => ob (x_GE k d 3 0 (fun _ => 0) r2.2) (fun r3 => ob (x_node k 0 (upd (upd (upd (upd (fun _ => 0) 1 33) 2 r1.1) 3 r3.1) 4 0) r3.2) (fun r4 => x_GE k (d + 1) 1 2 (upd (upd (upd (upd N 1 r1.1) 2 r3.1) 3 r4.1) 4 r4.1) r4.2))))) _
    obtain ⟨d', hd'⟩ : ∃ d', d = d' + 7 := ⟨d - 7, by omega⟩
    refine Tm_ob (P := fun r => r = (0, ρ)) (by rw [hd']; exact b_exp hB.1) (fun r7 hr7 => ?_)
    subst hr7
    refine Tm_ob (b_wantWord hB.1 _) (fun r1 hr1 => ?_)
    obtain ⟨u, τ⟩ := r1
    have hr1 : τ = ρ := hr1
    subst hr1
    refine Tm_ob (P := fun r => r = (0, τ)) (by rw [hd']; exact b_exp hB.1) (fun r7 hr7 => ?_)
    subst hr7
    exact bf τ b.1 _ N _ _ hB hM (by omega) hF
  refine Tm_suc (fun k => by rw [xE_1]) ?_
  refine Tm_ob (p_open (M := M) (P := P) (w := E.2.2.2.1) hS _) (fun r1 hr1 => ?_)
  rcases gO_any hG with ⟨o0, rfl⟩ | ⟨o0, hG⟩
  · rcases hr1.2 with ⟨_, hB⟩ | ⟨y, _⟩
    · exact Tm_ite (c := r1.2.1 10 = 0) (fun c => absurd c hB.1) (fun _ => b1 r1.2 _ hB hr1.1)
    · omega
  rcases hr1.2 with ⟨y, _⟩ | ⟨ho2, hS1, h13⟩
  · exact absurd y o0
  refine Tm_ite (c := r1.2.1 10 = 0) (fun _ => ?_) (fun c => absurd (PS_ok hS1) c)
  refine Tm_ob (p_take (M := M) (P := P) (w := E.2.2.2.1) hS1 _) (fun r3 hr3 => ?_)
  have hF3 := FrM_tr hr1.1 hr3.1
  rcases gT_any hG with ⟨t3, rfl⟩ | ⟨t3, hG⟩
  · rcases hr3.2 with ⟨_, hB⟩ | ⟨y, _⟩
    · exact b1 r3.2 _ hB hF3
    · exact absurd t3 y
  rcases hr3.2 with ⟨y, _⟩ | ⟨_, hS3⟩
  · exact absurd y t3
  refine Tm_suc (fun k => by rw [xE_1]) ?_
  show Tm (fun k => ob (x_GE k d 3 0 (fun _ => 0) r3.2) (fun r1 => ob (x_wantWord k 0 (upd (fun _ => 0) 1 8) r1.2) (fun r2 => ob (x_GE k d 3 0 (fun _ => 0) r2.2) (fun r5 => ob (x_node k 0 (upd (upd (upd (upd (fun _ => 0) 1 33) 2 r1.1) 3 r5.1) 4 0) r5.2) (fun r4 => x_GE k (d + 1) 1 2 (upd (upd (upd (upd L 1 r1.1) 2 r5.1) 3 r4.1) 4 r4.1) r4.2))))) _
  -- the condition
  rcases gb_any hG with ⟨yf, h5, rfl⟩ | ⟨s, h5, hG⟩
  · refine Tm_ob (H0 _ _ _ _ _ _ _ _ h5 r3.2 _ d M P hS3 h1 hM hP (by omega) (by omega) (by omega) trivial) (fun r5 hr5 => ?_)
    obtain ⟨⟨m1, hm, hmk, hMm⟩, _, hF5⟩ := hr5
    refine Tm_ob (b_wantWord hm.1 _) (fun r6 hr6 => ?_)
    obtain ⟨u, τ⟩ := r6
    have hr6 : τ = r5.2 := hr6
    subst hr6
    obtain ⟨d', hd'⟩ : ∃ d', d = d' + 7 := ⟨d - 7, by omega⟩
    refine Tm_ob (P := fun r => r = (0, r5.2)) (by rw [hd']; exact b_exp hm.1) (fun r7 hr7 => ?_)
    subst hr7
    exact bf r5.2 m1 _ L _ _ hm hMm (by omega) (FrM_tr hF3 hF5)
  obtain ⟨⟨a1, a2, a3, a4, a5, a6, a7, a8⟩, a9⟩ := mo_of (M := M) hu.2.1 hv h5 hM h1 trivial (fun h => h) (fun h => h)
  refine Tm_ob (H0 _ _ _ _ _ _ _ _ h5 r3.2 _ d M P hS3 h1 hM hP (by omega) (by omega) (by omega) trivial) (fun r5 hr5 => ?_)
  obtain ⟨hS5, hr51, hF5⟩ := hr5
  have hv5 := PS_v hS5
  have hws := tkN_b T n s.1 a2
  refine Tm_ob (p_wantWord (M := M) (P := P) (w := E.2.2.2.1) hS5 (s := 8) (by decide) rfl) (fun r6 hr6 => ?_)
  have hF6 := FrM_tr hF3 (FrM_tr hF5 hr6.1)
  rcases gW_any hG with ⟨t6, rfl⟩ | ⟨t6, hG⟩
  · rcases hr6.2 with ⟨_, hB⟩ | ⟨z, _⟩
    · obtain ⟨d', hd'⟩ : ∃ d', d = d' + 7 := ⟨d - 7, by omega⟩
      refine Tm_ob (P := fun r => r = (0, r6.2)) (by rw [hd']; exact b_exp hB.1) (fun r7 hr7 => ?_)
      subst hr7
      exact bf r6.2 s.2.2.2.2.1.1 _ L _ _ hB (by omega) (by omega) hF6
    · exact absurd z t6
  rcases hr6.2 with ⟨z, _⟩ | ⟨_, hS6⟩
  · exact absurd t6 z
  have hws4 := hws.2.2.2 (by rw [t6.1]; decide)
  rcases gb_any hG with ⟨yf, h7, rfl⟩ | ⟨s7, h7, hG⟩
  · refine Tm_ob (H0 _ _ _ _ _ _ _ _ h7 r6.2 _ d M P hS6 h1 (by omega) (by omega) (by omega) (by omega) (by omega) trivial) (fun r7 hr7 => ?_)
    obtain ⟨⟨m1, hm, hmk, hMm⟩, _, hF7⟩ := hr7
    exact bf r7.2 m1 _ L _ _ hm hMm (by omega) (FrM_tr hF6 hF7)
  obtain ⟨⟨f1, f2, f3, f4, f5, f6, f7, f8⟩, f9⟩ := mo_of (M := M) hws.2.1 hv5 h7 (by omega) h1 trivial (fun h => h) (fun h => h)
  refine Tm_ob (H0 _ _ _ _ _ _ _ _ h7 r6.2 _ d M P hS6 h1 (by omega) (by omega) (by omega) (by omega) (by omega) trivial) (fun r7 hr7 => ?_)
  obtain ⟨hS7, hr71, hF7⟩ := hr7
  refine Tm_ob (p_node (M := M) (P := P) (w := E.2.2.2.1) hS7 (by omega) (by omega) _) (fun r8 hr8 => ?_)
  obtain ⟨hr81, hS8, hF8⟩ := hr8
  have hv8 := PS_v hS8
  have w2 : (upd (upd (upd (upd (fun _ => (0 : Int32)) 1 33) 2 r5.1) 3 r7.1) 4 0) 2 = nI s.2.2.2.1 := by rw [upd_other (by decide), upd_other (by decide), upd_same]; exact hr51
  have w3 : (upd (upd (upd (upd (fun _ => (0 : Int32)) 1 33) 2 r5.1) 3 r7.1) 4 0) 3 = nI s7.2.2.2.1 := by rw [upd_other (by decide), upd_same]; exact hr71
  rw [w2, w3] at hS8
  have hF8 : FrM M P E.2.2.2.1 σ r8.2 := FrM_tr hF6 (FrM_tr hF7 hF8)
  -- the elseifs
  obtain ⟨y, hGl, hy⟩ : ∃ y, G T n f 16 E (o + 1) s7.1 s7.2.1 s7.2.2.2.2.1.1 s7.2.2.2.2.1.1 0 0 (bNode s7.2.2.2.2.1 33 (nI s.2.2.2.1) (nI s7.2.2.2.1) 0) = some y ∧ (match y with | Sum.inl yf => x = Sum.inl yf | Sum.inr t => gW T n 42 t.1 (fun q3 => gb (G T n f 0 E (o + 1) q3 t.2.1 0 0 0 0 t.2.2.2.2.1) (fun u => gW T n 38 u.1 (fun q4 => some (Sum.inr (q4, u.2.1, 0, u.2.2.2.2.1.1 + 1, bNode (bSet (bNode u.2.2.2.2.1 33 (-1) (nI u.2.2.2.1) 0) 9 t.2.2.2.1 (nI u.2.2.2.2.1.1)) 15 0 (nI s7.2.2.2.2.1.1) 0, []))))) = some x) := by
    rcases gb_any hG with ⟨yf, h9, hy⟩ | ⟨t, h9, hG⟩
    · exact ⟨Sum.inl yf, h9, hy⟩
    · exact ⟨Sum.inr t, h9, hG⟩
  refine ch_loop (M := M) (P := P) (d := d) f (fun f' hf' => H f' (by omega)) _ _ _ _ _ y hGl r8.2 _ _ hS8 h1 (by rw [bNode_1]; omega) (by rw [bNode_p]; omega) (by rw [bNode_1]; omega) (by rw [bNode_p]; omega) (by omega) (by rw [upd_same]; exact hr81) (by omega) (by rw [bNode_1]; omega) (fun ρ N' l k3 k4 hl hMl hF hm => ?_)
  have k3 : N' 3 = nI s7.2.2.2.2.1.1 := by rw [k3, upd_other (by decide), upd_same]; exact hr81
  have hFρ := FrM_tr hF8 hF
  cases y with
  | inl yf =>
    have hx : x = Sum.inl yf := hy
    subst hx
    obtain ⟨m, m1, m2, m3⟩ := hm
    rw [bNode_1] at m3
    exact b4 ρ m l N' k4 hl hMl m1 m2 (by omega) hFρ
  | inr u =>
    have hG : gW T n 42 u.1 (fun q3 => gb (G T n f 0 E (o + 1) q3 u.2.1 0 0 0 0 u.2.2.2.2.1) (fun w => gW T n 38 w.1 (fun q4 => some (Sum.inr (q4, w.2.1, 0, w.2.2.2.2.1.1 + 1, bNode (bSet (bNode w.2.2.2.2.1 33 (-1) (nI w.2.2.2.1) 0) 9 u.2.2.2.1 (nI w.2.2.2.2.1.1)) 15 0 (nI s7.2.2.2.2.1.1) 0, []))))) = some x := hy
    obtain ⟨hSu, rfl⟩ := hm
    obtain ⟨x1, x2⟩ := g_mono T n f 16 _ _ _ _ _ _ _ _ _ u f2 (by omega) hGl M (by rw [bNode_1]; omega) h1 (⟨by omega, by rw [bNode_1]; omega⟩ : M ≤ _ ∧ _ < _)
    obtain ⟨c1, c2, c3, c4, c5, c6, c7, c8⟩ := (x1 : Mo n _ _ _ u)
    have c9 : M ≤ u.2.2.2.1 ∧ u.2.2.2.1 < u.2.2.2.2.1.1 := x2
    rw [bNode_1] at c5 c6
    rw [bNode_p] at c7 c8
    have hvu := PS_v hSu
    have hwu := tkN_b T n u.1 c2
    refine Tm_suc (fun k => by rw [xE_1]) ?_
    refine Tm_ob (p_wantWord (M := M) (P := P) (w := E.2.2.2.1) hSu (s := 10) (by decide) rfl) (fun ra hra => ?_)
    have hFa := FrM_tr hFρ hra.1
    show Tm (fun k => ob (x_GE k d 3 0 (fun _ => 0) ra.2) _) _
    rcases gW_any hG with ⟨ta, rfl⟩ | ⟨ta, hG⟩
    · rcases hra.2 with ⟨_, hB⟩ | ⟨z, _⟩
      · obtain ⟨d', hd'⟩ : ∃ d', d = d' + 7 := ⟨d - 7, by omega⟩
        refine Tm_ob (P := fun r => r = (0, ra.2)) (by rw [hd']; exact b_exp hB.1) (fun r7 hr7 => ?_)
        subst hr7
        exact bn ra.2 u.2.2.2.2.1.1 u.2.2.2.1 N' _ _ k4 hl hMl hB (by omega) (by omega) hFa
      · exact absurd z ta
    rcases hra.2 with ⟨z, _⟩ | ⟨_, hSa⟩
    · exact absurd ta z
    have hwu4 := hwu.2.2.2 (by rw [ta.1]; decide)
    rcases gb_any hG with ⟨yf, h9, rfl⟩ | ⟨w, h9, hG⟩
    · refine Tm_ob (H0 _ _ _ _ _ _ _ _ h9 ra.2 _ d M P hSa h1 (by omega) (by omega) (by omega) (by omega) (by omega) trivial) (fun rb hrb => ?_)
      obtain ⟨⟨m1, hm, hmk, hMm⟩, _, hFb⟩ := hrb
      exact bn rb.2 m1 u.2.2.2.1 N' _ _ k4 hl hMl hm hMm (by omega) (FrM_tr hFa hFb)
    obtain ⟨⟨g1, g2, g3, g4, g5, g6, g7, g8⟩, g9⟩ := mo_of (M := M) hwu.2.1 hvu h9 (by omega) h1 trivial (fun h => h) (fun h => h)
    refine Tm_ob (H0 _ _ _ _ _ _ _ _ h9 ra.2 _ d M P hSa h1 (by omega) (by omega) (by omega) (by omega) (by omega) trivial) (fun rb hrb => ?_)
    obtain ⟨hSb, hrb1, hFb⟩ := hrb
    have hww := tkN_b T n w.1 g2
    refine Tm_ob (p_node (M := M) (P := P) (w := E.2.2.2.1) hSb (by omega) (by omega) _) (fun rc hrc => ?_)
    obtain ⟨hrc1, hSc, hFc⟩ := hrc
    have w3' : (upd (upd (upd (upd (fun _ => (0 : Int32)) 1 33) 2 (-1)) 3 rb.1) 4 0) 3 = nI w.2.2.2.1 := by rw [upd_other (by decide), upd_same]; exact hrb1
    rw [w3'] at hSc
    rw [k4, hrc1]
    refine Tm_chk (n_in (by omega) (by omega)) ?_
    rw [n_cl (p := u.2.2.2.1) (by omega)]
    have hSd := PS_set (l := u.2.2.2.1) hSc (j := 9) (by decide) (by decide) (nI w.2.2.2.2.1.1)
    have hFd : FrM M P E.2.2.2.1 σ (mSet rc.2 9 u.2.2.2.1 (nI w.2.2.2.2.1.1)) := FrM_tr hFa (FrM_tr hFb (FrM_tr hFc (FrM_set (by decide) (by decide) (Or.inr hMl) _)))
    show Tm (fun k => x_GE k (d + 1) 1 5 (upd N' 2 rb.1) (mSet rc.2 9 u.2.2.2.1 (nI w.2.2.2.2.1.1))) _
    refine Tm_suc (fun k => by rw [xE_1]) ?_
    refine Tm_ob (p_wantWord (M := M) (P := P) (w := E.2.2.2.1) hSd (s := 6) (by decide) rfl) (fun re hre => ?_)
    show Tm (fun k => x_GE k (d + 1) 1 6 (upd N' 2 rb.1) (mOpn re.2 (re.2.1 13 - 1))) _
    refine Tm_suc (fun k => by rw [xE_1]) ?_
    have hFe := FrM_tr hFd (FrM_tr hre.1 (FrM_opn (re.2.1 13 - 1)))
    rcases gW_any hG with ⟨te, rfl⟩ | ⟨te, hG⟩
    · rcases hre.2 with ⟨_, hB⟩ | ⟨z, _⟩
      · rw [bSet_1, bNode_1] at hB
        refine Tm_ob (b_node (M := M) (P := P) (w := E.2.2.2.1) (Bb_opn hB _) (by omega) (by omega) _) (fun r8 hr8 => ?_)
        exact Tm_some ⟨⟨_, hr8.2.1, by omega, by omega⟩, ⟨_, hr8.1, by omega, Or.inr (by omega)⟩, FrM_tr hFe hr8.2.2⟩
      · exact absurd z te
    rcases hre.2 with ⟨z, _⟩ | ⟨_, hSe⟩
    · exact absurd te z
    have hww4 := hww.2.2.2 (by rw [te.1]; decide)
    refine Tm_ob (p_node (M := M) (P := P) (w := E.2.2.2.1) (PS_clo hSe) (by rw [bSet_1, bNode_1]; omega) (by rw [bSet_1, bNode_1]; omega) _) (fun rf hrf => ?_)
    obtain ⟨hrf1, hSf, hFf⟩ := hrf
    cases hG
    refine Tm_some ⟨?_, hrf1, FrM_tr hFe hFf⟩
    have w5 : (upd (upd (upd (upd (fun _ => (0 : Int32)) 1 15) 2 0) 3 (upd N' 2 rb.1 3)) 4 0) 3 = nI s7.2.2.2.2.1.1 := by rw [upd_other (by decide), upd_same, upd_other (by decide)]; exact k3
    rw [w5] at hSf
    exact hSf
end CH
end JnS46
section JnS47
variable {yf : Nat × Nat}
/-! Primaries. -/
theorem str_len {T : Nat → Int32} {n q : Nat} (hq : q ≤ n) (h : tkK T n q = 28) : q + 2 ≤ tkE T n q := by
  have hk : (tokM 0 T n q).1 = 3 := by
    rcases tk_cases T n q hq with ⟨_, a, b⟩ | ⟨_, ⟨a, b⟩ | ⟨a, b⟩ | ⟨a, b⟩ | ⟨a, b1, b2, b3⟩ | ⟨a, b1, b2, b3⟩ | ⟨a, b⟩⟩
    · omega
    · omega
    · omega
    · exact a
    · omega
    · omega
    · omega
  unfold tkE
  unfold tokM at hk ⊢
  by_cases c : q = n
  · rw [if_pos c] at hk; exact absurd (show (0 : Int32) = 3 from hk) (by decide)
  rw [if_neg c] at hk ⊢
  by_cases c1 : isL (rB T n q)
  · rw [if_pos c1] at hk
    dsimp only at hk
    by_cases d1 : nameE T n (n + 1) q - q ≤ 16
    · rw [if_pos d1] at hk
      by_cases d2 : wordI (seg T q (nameE T n (n + 1) q)) = -1
      · rw [if_pos d2] at hk; exact absurd hk (by decide)
      · rw [if_neg d2] at hk; exact absurd hk (by decide)
    · rw [if_neg d1] at hk; exact absurd hk (by decide)
  rw [if_neg c1] at hk ⊢
  by_cases c2 : isD (rB T n q)
  · rw [if_pos c2] at hk
    dsimp only at hk
    by_cases d1 : digE T n (n + 1) q - q ≤ 60
    · rw [if_pos d1] at hk; exact absurd hk (by decide)
    · rw [if_neg d1] at hk; exact absurd hk (by decide)
  rw [if_neg c2] at hk ⊢
  by_cases c3 : rB T n q = 34
  · rw [if_pos c3] at hk ⊢
    dsimp only at hk ⊢
    by_cases d1 : (strE T n (n + 1) (q + 1) < n ∧ T (strE T n (n + 1) (q + 1)) = 34) ∧ strE T n (n + 1) (q + 1) - q - 1 ≤ 100
    · rw [if_pos d1.1]
      have := strE_ge T n (n + 1) (q + 1)
      omega
    · rw [if_neg d1] at hk; exact absurd hk (by decide)
  rw [if_neg c3] at hk
  dsimp only at hk
  by_cases d1 : signF (rB T n q) (rB T n (q + 1)) = 0
  · rw [if_pos d1] at hk; exact absurd hk (by decide)
  · rw [if_neg d1] at hk; exact absurd hk (by decide)
section PRIM
variable {T : Nat → Int32} {n o M P d : Nat} {E : En}
/-- a node, then the next token -/
theorem p_named {q v k0 : Nat} {b : BT} {x : Fl RT} {σ : MS} {L : Nat → Int32} {kd : Int32} (hG : gT T n q (fun q1 => some (Sum.inr (q1, v, 0, b.1, bNode b kd 0 0 0, []))) = some x) (hS : PS T n E o q v b σ) (hM : M ≤ b.1) (hm : b.1 + 1 < 70000) (hk : b.1 + 1 ≤ k0) (hL : L 1 = kd) : Tm (fun k => x_named k 0 L σ) (Po T n E o M P k0 σ x) := by
  refine Tm_suc (fun k => by rw [x_named]) ?_
  refine Tm_ob (p_node (M := M) (P := P) (w := E.2.2.2.1) hS (by omega) hM _) (fun r8 hr8 => ?_)
  obtain ⟨hr81, hS8, hF8⟩ := hr8
  have w1 : (upd (upd (upd (upd (fun _ => (0 : Int32)) 1 (L 1)) 2 0) 3 0) 4 0) 1 = kd := by rw [upd_other (by decide), upd_other (by decide), upd_other (by decide), upd_same]; exact hL
  rw [w1] at hS8
  refine Tm_ob (p_take (M := M) (P := P) (w := E.2.2.2.1) hS8 _) (fun r9 hr9 => ?_)
  rcases gT_any hG with ⟨t9, rfl⟩ | ⟨t9, hG⟩
  · rcases hr9.2 with ⟨_, hB⟩ | ⟨z, _⟩
    · exact Tm_some ⟨⟨_, hB, by rw [bNode_1]; omega, by rw [bNode_1]; omega⟩, ⟨b.1, hr81, by omega, Or.inr hM⟩, FrM_tr hF8 hr9.1⟩
    · exact absurd t9 z
  · rcases hr9.2 with ⟨z, _⟩ | ⟨_, hS9⟩
    · exact absurd z t9
    cases hG
    exact Tm_some ⟨hS9, hr81, FrM_tr hF8 hr9.1⟩
/-- a word and its ( exp ) -/
theorem m_fn {f q v w : Nat} {b : BT} {x : Fl RT} {σ : MS} {L : Nat → Int32} (H0 : S0 T n f)
    (hG : gT T n q (fun q1 => if tkK T n q1 = 6 then gO o q1 (gT T n q1 (fun q2 => gb (G T n f 0 E (o + 1) q2 v 0 0 0 0 b) (fun r => gW T n 7 r.1 (fun q3 => some (Sum.inr (q3, r.2.1, 0, r.2.2.2.2.1.1, bNode r.2.2.2.2.1 9 (nI w) (nI r.2.2.2.1) 0, [])))))) else some (Sum.inl (2, q1))) = some x)
    (hK : ¬ tkK T n q = 25) (hS : PS T n E o q v b σ) (h1 : 1 ≤ M) (hM : M ≤ b.1) (hP : P ≤ b.2.1) (hn : b.1 + (n + 1 - q) + 3 * (d + 3) ≤ 70000) (hp : b.2.1 + (n - q) ≤ 70000) (hdd : 12 * (21 - o) + 1 ≤ d + 1) (hL : L 1 = nI w) : Tm (fun k => x_GE k (d + 1) 16 14 L σ) (Po T n E o M P (b.1 + (n + 1 - q) + 3 * (d + 2)) σ x) := by
  have hq := PS_q hS
  have hv := PS_v hS
  have ho := PS_o hS
  have hu := tkN_b T n q hq.1
  have hu4 := hu.2.2.2 hK
  have b18 : ∀ {yf : Nat × Nat} (ρ : MS) (m : Nat) (N : Nat → Int32), Bb yf m ρ → M ≤ m → m + 1 ≤ b.1 + (n + 1 - q) + 3 * (d + 2) → FrM M P E.2.2.2.1 σ ρ → Tm (fun k => x_GE k (d + 1) 16 18 N ρ) (Po T n E o M P (b.1 + (n + 1 - q) + 3 * (d + 2)) σ (Sum.inl yf)) := fun {yf} ρ m N hB hMm hm hF => by
    refine Tm_suc (fun k => by rw [xE_16]) ?_
    refine Tm_ob (b_node (M := M) (P := P) (w := E.2.2.2.1) hB (by omega) hMm _) (fun r8 hr8 => ?_)
    exact Tm_some ⟨⟨_, hr8.2.1, hm, by omega⟩, ⟨_, hr8.1, by omega, Or.inr hMm⟩, FrM_tr hF hr8.2.2⟩
  have b17 : ∀ {yf : Nat × Nat} (ρ : MS) (m : Nat) (N : Nat → Int32), Bb yf m ρ → M ≤ m → m + 1 ≤ b.1 + (n + 1 - q) + 3 * (d + 2) → FrM M P E.2.2.2.1 σ ρ → Tm (fun k => x_GE k (d + 1) 16 17 N ρ) (Po T n E o M P (b.1 + (n + 1 - q) + 3 * (d + 2)) σ (Sum.inl yf)) := fun {yf} ρ m N hB hMm hm hF => by
    refine Tm_suc (fun k => by rw [xE_16]) ?_
    show Tm (fun k => ob (x_GE k d 3 0 (fun _ => 0) ρ) _) _
    obtain ⟨d', hd'⟩ : ∃ d', d = d' + 7 := ⟨d - 7, by omega⟩
    refine Tm_ob (P := fun r => r = (0, ρ)) (by rw [hd']; exact b_exp hB.1) (fun r7 hr7 => ?_)
    subst hr7
    refine Tm_ob (b_want hB.1 _) (fun r1 hr1 => ?_)
    obtain ⟨u, τ⟩ := r1
    have hr1 : τ = ρ := hr1
    subst hr1
    exact b18 (mOpn τ (τ.1 13 - 1)) m _ (Bb_opn hB _) hMm hm (FrM_tr hF (FrM_opn _))
  have b16 : ∀ {yf : Nat × Nat} (ρ : MS) (m : Nat) (N : Nat → Int32), Bb yf m ρ → M ≤ m → m + 1 ≤ b.1 + (n + 1 - q) + 3 * (d + 2) → FrM M P E.2.2.2.1 σ ρ → Tm (fun k => x_GE k (d + 1) 16 16 N ρ) (Po T n E o M P (b.1 + (n + 1 - q) + 3 * (d + 2)) σ (Sum.inl yf)) := fun {yf} ρ m N hB hMm hm hF => by
    refine Tm_suc (fun k => by rw [xE_16]) ?_
    exact Tm_ite (c := ρ.1 10 = 0) (fun z => absurd z hB.1) (fun _ => b17 ρ m N hB hMm hm hF)
  have b15 : ∀ {yf : Nat × Nat} (ρ : MS) (m : Nat) (N : Nat → Int32), Bb yf m ρ → M ≤ m → m + 1 ≤ b.1 + (n + 1 - q) + 3 * (d + 2) → FrM M P E.2.2.2.1 σ ρ → Tm (fun k => x_GE k (d + 1) 16 15 N ρ) (Po T n E o M P (b.1 + (n + 1 - q) + 3 * (d + 2)) σ (Sum.inl yf)) := fun {yf} ρ m N hB hMm hm hF => by
    refine Tm_suc (fun k => by rw [xE_16]) ?_
    exact Tm_ite (c := ρ.1 10 = 0) (fun z => absurd z hB.1) (fun _ => b16 ρ m N hB hMm hm hF)
  refine Tm_suc (fun k => by rw [xE_16]) ?_
  refine Tm_ob (p_take (M := M) (P := P) (w := E.2.2.2.1) hS _) (fun r1 hr1 => ?_)
  rcases gT_any hG with ⟨t1, rfl⟩ | ⟨t1, hG⟩
  · rcases hr1.2 with ⟨_, hB⟩ | ⟨z, _⟩
    · exact Tm_ite (c := r1.2.1 10 = 0) (fun z => absurd z hB.1) (fun _ => b15 r1.2 _ _ hB hM (by omega) hr1.1)
    · exact absurd t1 z
  rcases hr1.2 with ⟨z, _⟩ | ⟨_, hS1⟩
  · exact absurd z t1
  have hw := tkN_b T n (tkN T n q) hu.2.1
  refine Tm_ite (c := r1.2.1 10 = 0) (fun _ => ?_) (fun c => absurd (PS_ok hS1) c)
  refine Tm_ob (p_sign hS1 (s := 6) (by decide) (by decide) rfl) (fun r3 hr3 => ?_)
  obtain ⟨u, τ⟩ := r3
  obtain ⟨h3, hr3⟩ := hr3
  have h3 : τ = r1.2 := h3
  subst h3
  refine Tm_ite (fun z => ?_) (fun z => ?_)
  · rw [if_neg (fun y => hr3.mpr y z)] at hG
    have hx := (Option.some.inj hG).symm
    subst hx
    refine Tm_ob (p_cannot (M := M) (P := P) (w := E.2.2.2.1) hS1 _) (fun r5 hr5 => ?_)
    exact b15 r5.2 _ _ hr5.1 hM (by omega) (FrM_tr hr1.1 hr5.2)
  have hK6 := hr3.mp z
  rw [if_pos hK6] at hG
  have hw4 := hw.2.2.2 (by rw [hK6]; decide)
  refine Tm_suc (fun k => by rw [xE_16]) ?_
  refine Tm_ite (c := r1.2.1 10 = 0) (fun _ => ?_) (fun c => absurd (PS_ok hS1) c)
  refine Tm_ob (p_open (M := M) (P := P) (w := E.2.2.2.1) hS1 _) (fun r4 hr4 => ?_)
  have hF4 := FrM_tr hr1.1 hr4.1
  rcases gO_any hG with ⟨o0, rfl⟩ | ⟨o0, hG⟩
  · rcases hr4.2 with ⟨_, hB⟩ | ⟨y, _⟩
    · exact b16 r4.2 _ _ hB hM (by omega) hF4
    · omega
  rcases hr4.2 with ⟨y, _⟩ | ⟨ho2, hS4, _⟩
  · exact absurd y o0
  refine Tm_suc (fun k => by rw [xE_16]) ?_
  refine Tm_ite (c := r4.2.1 10 = 0) (fun _ => ?_) (fun c => absurd (PS_ok hS4) c)
  refine Tm_ob (p_take (M := M) (P := P) (w := E.2.2.2.1) hS4 _) (fun r5 hr5 => ?_)
  have hF5 := FrM_tr hF4 hr5.1
  rcases gT_any hG with ⟨t5, rfl⟩ | ⟨t5, hG⟩
  · rcases hr5.2 with ⟨_, hB⟩ | ⟨z, _⟩
    · exact b17 r5.2 _ _ hB hM (by omega) hF5
    · exact absurd t5 z
  rcases hr5.2 with ⟨z, _⟩ | ⟨_, hS5⟩
  · exact absurd z t5
  refine Tm_suc (fun k => by rw [xE_16]) ?_
  show Tm (fun k => ob (x_GE k d 3 0 (fun _ => 0) r5.2) _) _
  rcases gb_any hG with ⟨yf, h7, rfl⟩ | ⟨s, h7, hG⟩
  · refine Tm_ob (H0 _ _ _ _ _ _ _ _ h7 r5.2 _ d M P hS5 h1 hM hP (by omega) (by omega) (by omega) trivial) (fun r7 hr7 => ?_)
    obtain ⟨⟨m1, hm, hmk, hMm⟩, _, hF7⟩ := hr7
    refine Tm_ob (b_want hm.1 _) (fun r8 hr8 => ?_)
    obtain ⟨u, τ⟩ := r8
    have hr8 : τ = r7.2 := hr8
    subst hr8
    exact b18 (mOpn r7.2 (r7.2.1 13 - 1)) m1 _ (Bb_opn hm _) hMm (by omega) (FrM_tr hF5 (FrM_tr hF7 (FrM_opn _)))
  obtain ⟨⟨a1, a2, a3, a4, a5, a6, a7, a8⟩, a9⟩ := mo_of (M := M) hw.2.1 hv h7 hM h1 trivial (fun h => h) (fun h => h)
  refine Tm_ob (H0 _ _ _ _ _ _ _ _ h7 r5.2 _ d M P hS5 h1 hM hP (by omega) (by omega) (by omega) trivial) (fun r7 hr7 => ?_)
  obtain ⟨hS7, hr71, hF7⟩ := hr7
  refine Tm_ob (p_want (M := M) (P := P) (w := E.2.2.2.1) hS7 (s := 7) (by decide) (by decide) rfl) (fun r8 hr8 => ?_)
  have hF8 := FrM_tr hF5 (FrM_tr hF7 (FrM_tr hr8.1 (FrM_opn (r8.2.1 13 - 1))))
  rcases gW_any hG with ⟨t8, rfl⟩ | ⟨t8, hG⟩
  · rcases hr8.2 with ⟨_, hB⟩ | ⟨z, _⟩
    · exact b18 (mOpn r8.2 (r8.2.1 13 - 1)) _ _ (Bb_opn hB _) (by omega) (by omega) hF8
    · exact absurd z t8
  rcases hr8.2 with ⟨z, _⟩ | ⟨_, hS8⟩
  · exact absurd t8 z
  refine Tm_suc (fun k => by rw [xE_16]) ?_
  refine Tm_ob (p_node (M := M) (P := P) (w := E.2.2.2.1) (PS_clo hS8) (by omega) (by omega) _) (fun r9 hr9 => ?_)
  obtain ⟨hr91, hS9, hF9⟩ := hr9
  cases hG
  refine Tm_some ⟨?_, hr91, FrM_tr hF8 hF9⟩
  have w2 : (upd (upd (upd (upd (fun _ => (0 : Int32)) 1 9) 2 (upd L 3 r7.1 1)) 3 (upd L 3 r7.1 3)) 4 0) 2 = nI w := by rw [upd_other (by decide), upd_other (by decide), upd_same, upd_other (by decide)]; exact hL
  have w3 : (upd (upd (upd (upd (fun _ => (0 : Int32)) 1 9) 2 (upd L 3 r7.1 1)) 3 (upd L 3 r7.1 3)) 4 0) 3 = nI s.2.2.2.1 := by rw [upd_other (by decide), upd_same, upd_same]; exact hr71
  rw [w2, w3] at hS9
  exact hS9
end PRIM
end JnS47
