/-! Names in exps, calls of funcs. -/
theorem n_pos {c : Nat} (h : c < 2147483648) : ((0 : Int32) < nI c ↔ 0 < c) := by
  rw [show (0 : Int32) = nI 0 from rfl, n_lt (by omega) h]
theorem n_le0 {c : Nat} (h : c < 2147483648) : (nI c ≤ 0 ↔ c = 0) := by
  rw [show (0 : Int32) = nI 0 from rfl, n_le h (by omega)]; omega
theorem n_eq0 {c : Nat} (h : c < 2147483648) : (nI c = 0 ↔ c = 0) := by
  rw [show (0 : Int32) = nI 0 from rfl, n_eq h (by omega)]
section CALLS
variable {T : Nat → Int32} {n o M P d : Nat} {E : En}
/-- exps of a call: out of the loop with a fault, or with so many -/
theorem args_loop : ∀ (f : Nat), (∀ f', f' < f → S0 T n f') → ∀ (q v i e c : Nat) (b : BT) (y : Option RT), G T n f 14 E o q v i e c 0 b = some y → ∀ (σ : MS) (N : Nat → Int32) (Q : Int32 × MS → Prop), PS T n E o q v b σ → 1 ≤ M → M ≤ b.1 → P ≤ b.2.1 → b.1 + (n + 1 - q) + 3 * (d + 3) ≤ 70000 → b.2.1 + (n - q) ≤ 70000 → 12 * (21 - o) + 11 ≤ d → c ≤ q → N 6 = hd i → N 8 = nI c → (c = 0 → i = 0) → (¬ c = 0 → N 7 = nI e ∧ M ≤ e ∧ e < b.1 ∧ M ≤ i ∧ i < b.1) →
    (∀ (ρ : MS) (N' : Nat → Int32), N' 3 = N 3 → N' 5 = N 5 → FrM M P E.2.2.2.1 σ ρ → (match y with
      | none => ∃ m, Bb m ρ ∧ M ≤ m ∧ m ≤ b.1 + (n + 1 - q) + 3 * (d + 1)
      | some s => PS T n E o s.1 s.2.1 s.2.2.2.2.1 ρ ∧ N' 6 = hd s.2.2.2.1 ∧ N' 8 = nI s.2.2.1) → Tm (fun k => x_GE k (d + 1) 6 15 N' ρ) Q) → Tm (fun k => x_GE k (d + 1) 6 8 N σ) Q
  | 0 => fun _ q v i e c b y hG => by simp only [G] at hG; cases hG
  | f + 1 => fun H q v i e c b y hG σ N Q hS h1 hM hP hn hp hdd hcq hN6 hN8 hci hN7 hout => by
    rw [G_14] at hG
    have hq := PS_q hS
    have hv := PS_v hS
    have hu := tkN_b T n q hq.1
    have ih := args_loop f (fun f' hf' => H f' (by omega))
    have H0 := H f (by omega)
    -- behind an exp that ended in a fault
    have bout : ∀ (ρ : MS) (m : Nat) (N' : Nat → Int32) (c' : Nat), y = none → N' 3 = N 3 → N' 5 = N 5 → N' 8 = nI c' → c' < 2147483648 → (¬ c' = 0 → N' 7 = nI e ∧ M ≤ e ∧ e < b.1) → Bb m ρ → M ≤ m → m ≤ b.1 + (n + 1 - q) + 3 * (d + 1) → FrM M P E.2.2.2.1 σ ρ → Tm (fun k => x_GE k (d + 1) 6 13 N' ρ) Q := fun ρ m N' c' hy k3 k5 k8 hc' k7 hB hMm hm hF => by
      subst hy
      have last : ∀ (ρ' : MS) (N' : Nat → Int32), N' 3 = N 3 → N' 5 = N 5 → Bb m ρ' → FrM M P E.2.2.2.1 σ ρ' → Tm (fun k => x_GE k (d + 1) 6 14 N' ρ') Q := fun ρ' N' k3 k5 hB hF => by
        refine Tm_suc (fun k => by rw [xE_6]) ?_
        show Tm (fun k => x_GE k (d + 1) 6 8 (upd (upd N' 7 (N' 9)) 8 (N' 8 + 1)) ρ') _
        refine Tm_suc (fun k => by rw [xE_6]) ?_
        refine Tm_ite (c := ρ'.1 10 = 0) (fun z => absurd z hB.1) (fun _ => ?_)
        exact hout ρ' _ (by rw [upd_other (by decide), upd_other (by decide)]; exact k3) (by rw [upd_other (by decide), upd_other (by decide)]; exact k5) hF ⟨m, hB, hMm, hm⟩
      refine Tm_suc (fun k => by rw [xE_6]) ?_
      refine Tm_ite (c := N' 8 ≤ 0) (fun _ => last ρ _ (by rw [upd_other (by decide)]; exact k3) (by rw [upd_other (by decide)]; exact k5) hB hF) (fun z => ?_)
      rw [k8, n_le0 hc'] at z
      obtain ⟨k7, k71, k72⟩ := k7 z
      rw [k7]
      refine Tm_chk (n_in (by omega) (by omega)) ?_
      rw [n_cl (p := e) (by omega)]
      exact last (mSet ρ 9 e (N' 9)) _ (by rw [upd_other (by decide)]; exact k3) (by rw [upd_other (by decide)]; exact k5) (Bb_set hB) (FrM_tr hF (FrM_set (by decide) (by decide) (Or.inr k71) _))
    refine Tm_suc (fun k => by rw [xE_6]) ?_
    refine Tm_ite (c := σ.1 10 = 0) (fun _ => ?_) (fun z => absurd (PS_ok hS) z)
    by_cases c0 : c = 0
    · subst c0
      rw [if_pos rfl] at hG
      have hi0 := hci rfl
      subst hi0
      refine Tm_ite (c := (0 : Int32) < N 8) (fun z => absurd z (by rw [hN8]; decide)) (fun _ => ?_)
      refine Tm_ob (p_sign hS (s := 7) (by decide) (by decide) rfl) (fun r3 hr3 => ?_)
      obtain ⟨u, τ⟩ := r3
      obtain ⟨h3, hr3⟩ := hr3
      have h3 : τ = σ := h3
      subst h3
      refine Tm_ite (fun z => ?_) (fun z => ?_)
      · rw [if_neg (fun y => hr3.mpr y z)] at hG
        refine Tm_suc (fun k => by rw [xE_6]) ?_
        refine Tm_ite (c := N 8 = 0) (fun _ => ?_) (fun z => absurd (by rw [hN8]; rfl) z)
        refine Tm_suc (fun k => by rw [xE_6]) ?_
        refine Tm_ite (c := N 8 ≤ 0) (fun _ => ?_) (fun z => absurd (by rw [hN8]; decide) z)
        refine Tm_suc (fun k => by rw [xE_6]) ?_
        show Tm (fun k => ob (x_GE k d 3 0 (fun _ => 0) τ) _) _
        rcases gb_any hG with ⟨h7, hy⟩ | ⟨s, h7, hG⟩
        · refine Tm_ob (H0 _ _ _ _ _ _ _ _ h7 τ _ d M P hS h1 hM hP (by omega) hp (by omega) trivial) (fun r7 hr7 => ?_)
          obtain ⟨⟨m1, hm, hmk, hMm⟩, _, hF7⟩ := hr7
          refine Tm_ite (c := N 8 = 0) (fun _ => ?_) (fun z => absurd (by rw [hN8]; rfl) z)
          exact bout r7.2 m1 _ 0 hy (by rw [upd_other (by decide), upd_other (by decide)]) (by rw [upd_other (by decide), upd_other (by decide)]) (by rw [upd_other (by decide), upd_other (by decide)]; exact hN8) (by decide) (fun z => absurd rfl z) hm hMm (by omega) hF7
        obtain ⟨⟨a1, a2, a3, a4, a5, a6, a7, a8⟩, a9⟩ := mo_of (M := M) hq.1 hv h7 hM h1 trivial (fun h => h) (fun h => h)
        refine Tm_ob (H0 _ _ _ _ _ _ _ _ h7 τ _ d M P hS h1 hM hP (by omega) hp (by omega) trivial) (fun r7 hr7 => ?_)
        obtain ⟨hS7, hr71, hF7⟩ := hr7
        refine Tm_ite (c := N 8 = 0) (fun _ => ?_) (fun z => absurd (by rw [hN8]; rfl) z)
        have q8 : upd (upd N 9 r7.1) 100 r7.1 8 = nI 0 := by rw [upd_other (by decide), upd_other (by decide)]; exact hN8
        have q9 : upd (upd N 9 r7.1) 100 r7.1 9 = nI s.2.2.2.1 := by rw [upd_other (by decide), upd_same]; exact hr71
        have q100 : upd (upd N 9 r7.1) 100 r7.1 100 = nI s.2.2.2.1 := by rw [upd_same]; exact hr71
        have q3 : upd (upd N 9 r7.1) 100 r7.1 3 = N 3 := by rw [upd_other (by decide), upd_other (by decide)]
        have q5 : upd (upd N 9 r7.1) 100 r7.1 5 = N 5 := by rw [upd_other (by decide), upd_other (by decide)]
        generalize upd (upd N 9 r7.1) 100 r7.1 = N1 at q8 q9 q100 q3 q5
        refine Tm_suc (fun k => by rw [xE_6]) ?_
        refine Tm_ite (c := N1 8 ≤ 0) (fun _ => ?_) (fun z => absurd (by rw [q8]; decide) z)
        refine Tm_suc (fun k => by rw [xE_6]) ?_
        have hlt : 1 ≤ s.1 := by
          -- an exp has a byte
          have := (mo_of (M := b.1) hq.1 hv h7 (Nat.le_refl _) (by omega) trivial (fun h => h) (fun h => h)).2
          omega
        refine ih _ _ _ _ _ _ y hG r7.2 _ Q hS7 h1 (by omega) (by omega) (by omega) (by omega) hdd hlt ?_ ?_ (fun z => absurd z (by decide)) (fun _ => ⟨?_, a9.1, a9.2, a9.1, a9.2⟩) (fun ρ N' k3 k5 hF hm => ?_)
        · rw [upd_other (by decide), upd_other (by decide), upd_same, q100, hd_pos (by omega)]
        · rw [upd_same, upd_other (by decide), q8]; rfl
        · rw [upd_other (by decide), upd_same, upd_other (by decide)]; exact q9
        refine hout ρ N' (k3.trans (by rw [upd_other (by decide), upd_other (by decide), upd_other (by decide)]; exact q3)) (k5.trans (by rw [upd_other (by decide), upd_other (by decide), upd_other (by decide)]; exact q5)) (FrM_tr hF7 hF) ?_
        cases y with
        | none => obtain ⟨m, m1, m2, m3⟩ := hm; exact ⟨m, m1, m2, by omega⟩
        | some t => exact hm
      · rw [if_pos (hr3.mp z)] at hG
        cases hG
        exact hout τ N rfl rfl FrM_rf ⟨hS, hN6, hN8⟩
    · rw [if_neg c0] at hG
      obtain ⟨hN7, e1, e2, i1, i2⟩ := hN7 c0
      refine Tm_ite (c := (0 : Int32) < N 8) (fun _ => ?_) (fun z => absurd (by rw [hN8, n_pos (by omega)]; omega) z)
      refine Tm_suc (fun k => by rw [xE_6]) ?_
      refine Tm_ite (c := N 8 = 0) (fun z => absurd ((n_eq0 (by omega)).mp (by rw [← hN8]; exact z)) c0) (fun _ => ?_)
      refine Tm_ob (p_sign hS (s := 12) (by decide) (by decide) rfl) (fun r3 hr3 => ?_)
      obtain ⟨u, τ⟩ := r3
      obtain ⟨h3, hr3⟩ := hr3
      have h3 : τ = σ := h3
      subst h3
      refine Tm_ite (fun z => ?_) (fun z => ?_)
      · rw [if_neg (fun y => hr3.mpr y z)] at hG
        cases hG
        exact hout τ N rfl rfl FrM_rf ⟨hS, hN6, hN8⟩
      have hK := hr3.mp z
      rw [if_pos hK] at hG
      have hu4 := hu.2.2.2 (by rw [hK]; decide)
      refine Tm_suc (fun k => by rw [xE_6]) ?_
      refine Tm_ite (c := N 8 ≤ 0) (fun z => absurd ((n_le0 (by omega)).mp (by rw [← hN8]; exact z)) c0) (fun _ => ?_)
      refine Tm_ob (p_take (M := M) (P := P) (w := E.2.2.2.1) hS _) (fun r4 hr4 => ?_)
      refine Tm_suc (fun k => by rw [xE_6]) ?_
      show Tm (fun k => ob (x_GE k d 3 0 (fun _ => 0) r4.2) _) _
      have step : ∀ (r7 : Int32 × MS) (m : Nat), y = none → Bb m r7.2 → M ≤ m → m ≤ b.1 + (n + 1 - q) + 3 * (d + 1) → FrM M P E.2.2.2.1 τ r7.2 → Tm (fun k => if N 8 = 0 then x_GE k (d + 1) 6 13 (upd (upd N 9 r7.1) 100 r7.1) r7.2 else x_GE k (d + 1) 6 12 (upd N 9 r7.1) r7.2) Q := fun r7 m hy hB hMm hm hF => by
        refine Tm_ite (fun z => absurd ((n_eq0 (by omega)).mp (by rw [← hN8]; exact z)) c0) (fun _ => ?_)
        refine Tm_suc (fun k => by rw [xE_6]) ?_
        exact bout r7.2 m _ c hy (by rw [upd_other (by decide), upd_other (by decide)]) (by rw [upd_other (by decide), upd_other (by decide)]) (by rw [upd_other (by decide), upd_other (by decide)]; exact hN8) (by omega) (fun _ => ⟨by rw [upd_other (by decide), upd_other (by decide)]; exact hN7, e1, e2⟩) hB hMm hm hF
      rcases gT_any hG with ⟨t4, hy⟩ | ⟨t4, hG⟩
      · rcases hr4.2 with ⟨_, hB⟩ | ⟨z, _⟩
        · obtain ⟨d', hd'⟩ : ∃ d', d = d' + 7 := ⟨d - 7, by omega⟩
          refine Tm_ob (by rw [hd']; exact b_exp hB.1) (fun r7 hr7 => ?_)
          subst hr7
          exact step (0, r4.2) _ hy hB hM (by omega) hr4.1
        · exact absurd t4 z
      rcases hr4.2 with ⟨z, _⟩ | ⟨_, hS4⟩
      · exact absurd z t4
      rcases gb_any hG with ⟨h7, hy⟩ | ⟨s, h7, hG⟩
      · refine Tm_ob (H0 _ _ _ _ _ _ _ _ h7 r4.2 _ d M P hS4 h1 hM hP (by omega) (by omega) (by omega) trivial) (fun r7 hr7 => ?_)
        obtain ⟨⟨m1, hm, hmk, hMm⟩, _, hF7⟩ := hr7
        exact step r7 m1 hy hm hMm (by omega) (FrM_tr hr4.1 hF7)
      obtain ⟨⟨a1, a2, a3, a4, a5, a6, a7, a8⟩, a9⟩ := mo_of (M := M) hu.2.1 hv h7 hM h1 trivial (fun h => h) (fun h => h)
      refine Tm_ob (H0 _ _ _ _ _ _ _ _ h7 r4.2 _ d M P hS4 h1 hM hP (by omega) (by omega) (by omega) trivial) (fun r7 hr7 => ?_)
      obtain ⟨hS7, hr71, hF7⟩ := hr7
      refine Tm_ite (c := N 8 = 0) (fun z => absurd ((n_eq0 (by omega)).mp (by rw [← hN8]; exact z)) c0) (fun _ => ?_)
      refine Tm_suc (fun k => by rw [xE_6]) ?_
      have q8 : upd (upd N 9 r7.1) 100 (upd N 9 r7.1 6) 8 = nI c := by rw [upd_other (by decide), upd_other (by decide)]; exact hN8
      have q9 : upd (upd N 9 r7.1) 100 (upd N 9 r7.1 6) 9 = nI s.2.2.2.1 := by rw [upd_other (by decide), upd_same]; exact hr71
      have q100 : upd (upd N 9 r7.1) 100 (upd N 9 r7.1 6) 100 = hd i := by rw [upd_same, upd_other (by decide)]; exact hN6
      have q7 : upd (upd N 9 r7.1) 100 (upd N 9 r7.1 6) 7 = nI e := by rw [upd_other (by decide), upd_other (by decide)]; exact hN7
      have q3 : upd (upd N 9 r7.1) 100 (upd N 9 r7.1 6) 3 = N 3 := by rw [upd_other (by decide), upd_other (by decide)]
      have q5 : upd (upd N 9 r7.1) 100 (upd N 9 r7.1 6) 5 = N 5 := by rw [upd_other (by decide), upd_other (by decide)]
      show Tm (fun k => x_GE k (d + 1) 6 13 (upd (upd N 9 r7.1) 100 (upd N 9 r7.1 6)) r7.2) _
      generalize upd (upd N 9 r7.1) 100 (upd N 9 r7.1 6) = N1 at q8 q9 q100 q7 q3 q5
      refine Tm_suc (fun k => by rw [xE_6]) ?_
      refine Tm_ite (c := N1 8 ≤ 0) (fun z => absurd ((n_le0 (by omega)).mp (by rw [← q8]; exact z)) c0) (fun _ => ?_)
      rw [q7, q9]
      refine Tm_chk (n_in (by omega) (by omega)) ?_
      rw [n_cl (p := e) (by omega)]
      refine Tm_suc (fun k => by rw [xE_6]) ?_
      have hF8 : FrM M P E.2.2.2.1 τ (mSet r7.2 9 e (nI s.2.2.2.1)) := FrM_tr hr4.1 (FrM_tr hF7 (FrM_set (by decide) (by decide) (Or.inr e1) _))
      refine ih _ _ _ _ _ _ y hG (mSet r7.2 9 e (nI s.2.2.2.1)) _ Q (PS_set hS7 (by decide) (by decide) _) h1 (by rw [bSet_1]; omega) (by rw [bSet_p]; omega) (by rw [bSet_1]; omega) (by rw [bSet_p]; omega) hdd (by omega) ?_ ?_ (fun z => absurd z (by omega)) (fun _ => ⟨?_, a9.1, by rw [bSet_1]; exact a9.2, i1, by rw [bSet_1]; omega⟩) (fun ρ N' k3 k5 hF hm => ?_)
      · rw [upd_other (by decide), upd_other (by decide), upd_same]; exact q100
      · rw [upd_same, upd_other (by decide), q8, n_add1]
      · rw [upd_other (by decide), upd_same, upd_other (by decide)]; exact q9
      refine hout ρ N' (k3.trans (by rw [upd_other (by decide), upd_other (by decide), upd_other (by decide)]; exact q3)) (k5.trans (by rw [upd_other (by decide), upd_other (by decide), upd_other (by decide)]; exact q5)) (FrM_tr hF8 hF) ?_
      cases y with
      | none => obtain ⟨m, m1, m2, m3⟩ := hm; exact ⟨m, m1, m2, by rw [bSet_1] at m3; omega⟩
      | some t => exact hm
end CALLS
