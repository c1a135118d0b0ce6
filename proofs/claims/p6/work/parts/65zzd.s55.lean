/-! Calls of procs: the reference's. -/
section CALL
variable {T : Nat → Int32} {n : Nat} {md : Nat → Nat} {np p : Nat} {E : En} {o M P : Nat}
theorem call_loop : ∀ (f : Nat) (q v i e c : Nat) (b : BT) (y : Option RT), GA T n md np E f o q v i e c b = some y → ∀ (σ : MS) (N : Nat → Int32) (Q : Int32 × MS → Prop), PS T n E o q v b σ → PM σ md np p → 1 ≤ M → M ≤ b.1 → P ≤ b.2.1 → b.1 + (n + 1 - q) + 967 ≤ 70000 → b.2.1 + (n - q) ≤ 70000 → c ≤ q → N 2 = nI p → N 4 = hd i → N 6 = nI c → (c = 0 → i = 0) → (¬ c = 0 → N 5 = nI e ∧ M ≤ e ∧ e < b.1 ∧ M ≤ i ∧ i < b.1) →
    (∀ (ρ : MS) (N' : Nat → Int32), N' 1 = N 1 → N' 2 = N 2 → FrM M P E.2.2.2.1 σ ρ → (match y with
      | none => ∃ m, Bb m ρ ∧ M ≤ m ∧ m ≤ b.1 + (n + 1 - q) + 963
      | some s => PS T n E o s.1 s.2.1 s.2.2.2.2.1 ρ ∧ N' 4 = hd s.2.2.2.1 ∧ N' 6 = nI s.2.2.1) → Tm (fun k => x_call k 12 N' ρ) Q) → Tm (fun k => x_call k 4 N σ) Q
  | 0 => fun q v i e c b y hG => by simp only [GA] at hG; cases hG
  | f + 1 => fun q v i e c b y hG σ N Q hS hPM h1 hM hP hn hp hcq hN2 hN4 hN6 hci hN5 hout => by
    simp only [GA] at hG
    have hq := PS_q hS
    have hv := PS_v hS
    have hu := tkN_b T n q hq.1
    have ih := call_loop f
    -- behind an exp that ended in a fault: from 8 on
    have bout : ∀ (ρ : MS) (m : Nat) (N' : Nat → Int32) (c' : Nat), y = none → N' 1 = N 1 → N' 2 = N 2 → N' 6 = nI c' → c' < 2147483648 → (¬ c' = 0 → N' 5 = nI e ∧ M ≤ e ∧ e < b.1) → Bb m ρ → M ≤ m → m ≤ b.1 + (n + 1 - q) + 963 → FrM M P E.2.2.2.1 σ ρ → Tm (fun k => x_call k 8 N' ρ) Q := fun ρ m N' c' hy k1 k2 k6 hc' k5 hB hMm hm hF => by
      subst hy
      have last : ∀ (ρ' : MS) (N' : Nat → Int32), N' 1 = N 1 → N' 2 = N 2 → Bb m ρ' → FrM M P E.2.2.2.1 σ ρ' → Tm (fun k => x_call k 11 N' ρ') Q := fun ρ' N' k1 k2 hB hF => by
        refine Tm_suc (fun k => by rw [x_call]) ?_
        refine Tm_suc (fun k => by rw [x_call]) ?_
        refine Tm_ite (fun z => absurd z hB.1) (fun _ => ?_)
        exact hout ρ' _ (by rw [upd_other (by decide), upd_other (by decide)]; exact k1) (by rw [upd_other (by decide), upd_other (by decide)]; exact k2) hF ⟨m, hB, hMm, hm⟩
      have ten : ∀ N' : Nat → Int32, N' 1 = N 1 → N' 2 = N 2 → N' 6 = nI c' → (¬ c' = 0 → N' 5 = nI e ∧ M ≤ e ∧ e < b.1) → Tm (fun k => x_call k 10 N' ρ) Q := fun N' k1 k2 k6 k5 => by
        refine Tm_suc (fun k => by rw [x_call]) ?_
        refine Tm_ite (fun _ => last ρ _ (by rw [upd_other (by decide)]; exact k1) (by rw [upd_other (by decide)]; exact k2) hB hF) (fun z => ?_)
        rw [k6, n_le0 hc'] at z
        obtain ⟨k5, k51, k52⟩ := k5 z
        rw [k5]
        refine Tm_chk (n_in (by omega) (by omega)) ?_
        rw [n_cl (p := e) (by omega)]
        exact last (mSet ρ 9 e (N' 8)) _ (by rw [upd_other (by decide)]; exact k1) (by rw [upd_other (by decide)]; exact k2) (Bb_set hB) (FrM_tr hF (FrM_set (by decide) (by decide) (Or.inr k51) _))
      refine Tm_suc (fun k => by rw [x_call]) ?_
      refine Tm_ite (fun _ => ten _ (by rw [upd_other (by decide)]; exact k1) (by rw [upd_other (by decide)]; exact k2) (by rw [upd_other (by decide)]; exact k6) (fun z => by rw [upd_other (by decide)]; exact k5 z)) (fun _ => ?_)
      refine Tm_suc (fun k => by rw [x_call]) ?_
      exact ten _ (by rw [upd_other (by decide)]; exact k1) (by rw [upd_other (by decide)]; exact k2) (by rw [upd_other (by decide)]; exact k6) (fun z => by rw [upd_other (by decide)]; exact k5 z)
    refine Tm_suc (fun k => by rw [x_call]) ?_
    refine Tm_ite (fun _ => ?_) (fun z => absurd (PS_ok hS) z)
    rw [hN6]
    by_cases c0 : c = 0
    · subst c0
      rw [if_pos rfl] at hG
      have hi0 := hci rfl
      subst hi0
      refine Tm_ite (c := (0 : Int32) < nI 0) (fun z => absurd z (by decide)) (fun _ => ?_)
      refine Tm_ob (p_sign hS (s := 7) (by decide) (by decide) rfl) (fun r3 hr3 => ?_)
      obtain ⟨u, τ⟩ := r3
      obtain ⟨h3, hr3⟩ := hr3
      have h3 : τ = σ := h3
      subst h3
      refine Tm_ite (fun z => ?_) (fun z => ?_)
      · rw [if_neg (fun y => hr3.mpr y z)] at hG
        refine Tm_suc (fun k => by rw [x_call]) ?_
        refine Tm_ite (fun _ => ?_) (fun z => absurd (by rw [hN6]; rfl) z)
        refine Tm_suc (fun k => by rw [x_call]) ?_
        refine Tm_ite (fun _ => ?_) (fun z => absurd (by rw [hN6]; decide) z)
        refine Tm_suc (fun k => by rw [x_call]) ?_
        rcases gb_any hG with ⟨h7, hy⟩ | ⟨s, h7, hG⟩
        · refine Tm_ob (p_exp (M := M) (P := P) h7 hS h1 hM hP (by omega) (by omega)) (fun r7 hr7 => ?_)
          obtain ⟨⟨m1, hm, hmk, hMm⟩, _, hF7⟩ := hr7
          refine Tm_ite (fun z => absurd z hm.1) (fun _ => ?_)
          exact bout r7.2 m1 _ 0 hy (by rw [upd_other (by decide), upd_other (by decide)]) (by rw [upd_other (by decide), upd_other (by decide)]) (by rw [upd_other (by decide), upd_other (by decide)]; exact hN6) (by decide) (fun z => absurd rfl z) hm hMm (by omega) hF7
        obtain ⟨⟨a1, a2, a3, a4, a5, a6, a7, a8⟩, a9⟩ := mo_of (M := M) hq.1 hv h7 hM h1 trivial (fun h => h) (fun h => h)
        have a9' := (mo_of (M := b.1) hq.1 hv h7 (Nat.le_refl _) (by omega) trivial (fun h => h) (fun h => h)).2
        have hI := g_info T n f 0 E o q v 0 0 0 0 b s (by decide) hq.1 hv (by omega) h7 trivial (fun z => absurd z (by decide))
        refine Tm_ob (p_exp (M := M) (P := P) h7 hS h1 hM hP (by omega) (by omega)) (fun r7 hr7 => ?_)
        obtain ⟨hS7, hr71, hF7⟩ := hr7
        have q1 : ∀ x8 : Int32, upd (upd N 7 x8) 8 r7.1 1 = N 1 := fun x8 => by rw [upd_other (by decide), upd_other (by decide)]
        have q2 : ∀ x8 : Int32, upd (upd N 7 x8) 8 r7.1 2 = N 2 := fun x8 => by rw [upd_other (by decide), upd_other (by decide)]
        have q6 : ∀ x8 : Int32, upd (upd N 7 x8) 8 r7.1 6 = nI 0 := fun x8 => by rw [upd_other (by decide), upd_other (by decide)]; exact hN6
        have q8 : ∀ x8 : Int32, upd (upd N 7 x8) 8 r7.1 8 = nI s.2.2.2.1 := fun x8 => by rw [upd_same]; exact hr71
        refine call_chk (M := M) (P := P) (md := md) (np := np) (σ0 := τ) Q hS7 hr71 hI (by omega) (PM_fr hPM hF7) hN2 hN6 (by decide) hF7 (fun hno => ?_) (fun hyes ρ hB hF => ?_) _ _
        · rw [if_neg hno] at hG
          have q1' := q1 (τ.1 8)
          have q2' := q2 (τ.1 8)
          have q6' := q6 (τ.1 8)
          have q8' := q8 (τ.1 8)
          generalize upd (upd N 7 (τ.1 8)) 8 r7.1 = N1 at q1' q2' q6' q8'
          refine Tm_suc (fun k => by rw [x_call]) ?_
          refine Tm_ite (fun _ => ?_) (fun z => absurd (by rw [q6']; rfl) z)
          refine Tm_suc (fun k => by rw [x_call]) ?_
          refine Tm_ite (fun _ => ?_) (fun z => absurd (by rw [upd_other (by decide), q6']; decide) z)
          refine Tm_suc (fun k => by rw [x_call]) ?_
          refine ih _ _ _ _ _ _ y hG r7.2 _ Q hS7 (PM_fr hPM hF7) h1 (by omega) (by omega) (by omega) (by omega) (by omega) ?_ ?_ ?_ (fun z => absurd z (by decide)) (fun _ => ⟨?_, a9.1, a9.2, a9.1, a9.2⟩) (fun ρ N' k1 k2 hF hm => ?_)
          · rw [upd_other (by decide), upd_other (by decide), upd_other (by decide), upd_other (by decide), q2']; exact hN2
          · rw [upd_other (by decide), upd_other (by decide), upd_same, upd_same, q8', hd_pos (by omega)]
          · rw [upd_same, upd_other (by decide), upd_other (by decide), q6']; rfl
          · rw [upd_other (by decide), upd_same, upd_other (by decide), upd_other (by decide)]; exact q8'
          refine hout ρ N' (k1.trans (by rw [upd_other (by decide), upd_other (by decide), upd_other (by decide), upd_other (by decide)]; exact q1')) (k2.trans (by rw [upd_other (by decide), upd_other (by decide), upd_other (by decide), upd_other (by decide)]; exact q2')) (FrM_tr hF7 hF) ?_
          cases y with
          | none => obtain ⟨m, m1, m2, m3⟩ := hm; exact ⟨m, m1, m2, by omega⟩
          | some t => exact hm
        · rw [if_pos hyes] at hG
          exact bout ρ _ _ 0 (Option.some.inj hG).symm (q1 _) (q2 _) (q6 _) (by decide) (fun z => absurd rfl z) hB (by omega) (by omega) hF
      · rw [if_pos (hr3.mp z)] at hG
        cases hG
        exact hout τ N rfl rfl FrM_rf ⟨hS, hN4, hN6⟩
    · rw [if_neg c0] at hG
      obtain ⟨hN5, e1, e2, i1, i2⟩ := hN5 c0
      refine Tm_ite (c := (0 : Int32) < nI c) (fun _ => ?_) (fun z => absurd (by rw [n_pos (by omega)]; omega) z)
      refine Tm_suc (fun k => by rw [x_call]) ?_
      refine Tm_ite (fun z => absurd ((n_eq0 (by omega)).mp (by rw [← hN6]; exact z)) c0) (fun _ => ?_)
      refine Tm_ob (p_sign hS (s := 12) (by decide) (by decide) rfl) (fun r3 hr3 => ?_)
      obtain ⟨u, τ⟩ := r3
      obtain ⟨h3, hr3⟩ := hr3
      have h3 : τ = σ := h3
      subst h3
      refine Tm_ite (fun z => ?_) (fun z => ?_)
      · rw [if_neg (fun y => hr3.mpr y z)] at hG
        cases hG
        exact hout τ N rfl rfl FrM_rf ⟨hS, hN4, hN6⟩
      have hK := hr3.mp z
      rw [if_pos hK] at hG
      have hu4 := hu.2.2.2 (by rw [hK]; decide)
      refine Tm_suc (fun k => by rw [x_call]) ?_
      refine Tm_ite (fun z => absurd ((n_le0 (by omega)).mp (by rw [← hN6]; exact z)) c0) (fun _ => ?_)
      refine Tm_ob (p_take (M := M) (P := P) (w := E.2.2.2.1) hS _) (fun r4 hr4 => ?_)
      refine Tm_suc (fun k => by rw [x_call]) ?_
      rcases gT_any hG with ⟨t4, hy⟩ | ⟨t4, hG⟩
      · rcases hr4.2 with ⟨_, hB⟩ | ⟨z, _⟩
        · refine Tm_ob (b_xexp hB.1 _) (fun r7 hr7 => ?_)
          subst hr7
          refine Tm_ite (fun z => absurd z hB.1) (fun _ => ?_)
          exact bout r4.2 _ _ c hy (by rw [upd_other (by decide), upd_other (by decide)]) (by rw [upd_other (by decide), upd_other (by decide)]) (by rw [upd_other (by decide), upd_other (by decide)]; exact hN6) (by omega) (fun _ => ⟨by rw [upd_other (by decide), upd_other (by decide)]; exact hN5, e1, e2⟩) hB hM (by omega) hr4.1
        · exact absurd t4 z
      rcases hr4.2 with ⟨z, _⟩ | ⟨_, hS4⟩
      · exact absurd z t4
      rcases gb_any hG with ⟨h7, hy⟩ | ⟨s, h7, hG⟩
      · refine Tm_ob (p_exp (M := M) (P := P) h7 hS4 h1 hM hP (by omega) (by omega)) (fun r7 hr7 => ?_)
        obtain ⟨⟨m1, hm, hmk, hMm⟩, _, hF7⟩ := hr7
        refine Tm_ite (fun z => absurd z hm.1) (fun _ => ?_)
        exact bout r7.2 m1 _ c hy (by rw [upd_other (by decide), upd_other (by decide)]) (by rw [upd_other (by decide), upd_other (by decide)]) (by rw [upd_other (by decide), upd_other (by decide)]; exact hN6) (by omega) (fun _ => ⟨by rw [upd_other (by decide), upd_other (by decide)]; exact hN5, e1, e2⟩) hm hMm (by omega) (FrM_tr hr4.1 hF7)
      obtain ⟨⟨a1, a2, a3, a4, a5, a6, a7, a8⟩, a9⟩ := mo_of (M := M) hu.2.1 hv h7 hM h1 trivial (fun h => h) (fun h => h)
      have a9' := (mo_of (M := b.1) hu.2.1 hv h7 (Nat.le_refl _) (by omega) trivial (fun h => h) (fun h => h)).2
      have hI := g_info T n f 0 E o _ v 0 0 0 0 b s (by decide) hu.2.1 hv (by omega) h7 trivial (fun z => absurd z (by decide))
      refine Tm_ob (p_exp (M := M) (P := P) h7 hS4 h1 hM hP (by omega) (by omega)) (fun r7 hr7 => ?_)
      obtain ⟨hS7, hr71, hF7⟩ := hr7
      have hF7 : FrM M P E.2.2.2.1 τ r7.2 := FrM_tr hr4.1 hF7
      have q1 : ∀ x8 : Int32, upd (upd N 7 x8) 8 r7.1 1 = N 1 := fun x8 => by rw [upd_other (by decide), upd_other (by decide)]
      have q2 : ∀ x8 : Int32, upd (upd N 7 x8) 8 r7.1 2 = N 2 := fun x8 => by rw [upd_other (by decide), upd_other (by decide)]
      have q4 : ∀ x8 : Int32, upd (upd N 7 x8) 8 r7.1 4 = hd i := fun x8 => by rw [upd_other (by decide), upd_other (by decide)]; exact hN4
      have q5 : ∀ x8 : Int32, upd (upd N 7 x8) 8 r7.1 5 = nI e := fun x8 => by rw [upd_other (by decide), upd_other (by decide)]; exact hN5
      have q6 : ∀ x8 : Int32, upd (upd N 7 x8) 8 r7.1 6 = nI c := fun x8 => by rw [upd_other (by decide), upd_other (by decide)]; exact hN6
      have q8 : ∀ x8 : Int32, upd (upd N 7 x8) 8 r7.1 8 = nI s.2.2.2.1 := fun x8 => by rw [upd_same]; exact hr71
      refine call_chk (M := M) (P := P) (md := md) (np := np) (σ0 := τ) Q hS7 hr71 hI (by omega) (PM_fr hPM hF7) hN2 hN6 (by omega) hF7 (fun hno => ?_) (fun hyes ρ hB hF => ?_) _ _
      · rw [if_neg hno] at hG
        have q1' := q1 (r4.2.1 8)
        have q2' := q2 (r4.2.1 8)
        have q4' := q4 (r4.2.1 8)
        have q5' := q5 (r4.2.1 8)
        have q6' := q6 (r4.2.1 8)
        have q8' := q8 (r4.2.1 8)
        generalize upd (upd N 7 (r4.2.1 8)) 8 r7.1 = N1 at q1' q2' q4' q5' q6' q8'
        refine Tm_suc (fun k => by rw [x_call]) ?_
        refine Tm_ite (fun z => absurd ((n_eq0 (by omega)).mp (by rw [← q6']; exact z)) c0) (fun _ => ?_)
        refine Tm_suc (fun k => by rw [x_call]) ?_
        have p6 : upd N1 100 (N1 4) 6 = nI c := by rw [upd_other (by decide)]; exact q6'
        have p5 : upd N1 100 (N1 4) 5 = nI e := by rw [upd_other (by decide)]; exact q5'
        have p8 : upd N1 100 (N1 4) 8 = nI s.2.2.2.1 := by rw [upd_other (by decide)]; exact q8'
        have p1 : upd N1 100 (N1 4) 1 = N 1 := by rw [upd_other (by decide)]; exact q1'
        have p2 : upd N1 100 (N1 4) 2 = N 2 := by rw [upd_other (by decide)]; exact q2'
        have p100 : upd N1 100 (N1 4) 100 = hd i := by rw [upd_same]; exact q4'
        generalize upd N1 100 (N1 4) = N2 at p6 p5 p8 p1 p2 p100
        refine Tm_suc (fun k => by rw [x_call]) ?_
        refine Tm_ite (fun z => absurd ((n_le0 (by omega)).mp (by rw [← p6]; exact z)) c0) (fun _ => ?_)
        rw [p5, p8]
        refine Tm_chk (n_in (by omega) (by omega)) ?_
        rw [n_cl (p := e) (by omega)]
        refine Tm_suc (fun k => by rw [x_call]) ?_
        have hF8 : FrM M P E.2.2.2.1 τ (mSet r7.2 9 e (nI s.2.2.2.1)) := FrM_tr hF7 (FrM_set (by decide) (by decide) (Or.inr e1) _)
        refine ih _ _ _ _ _ _ y hG (mSet r7.2 9 e (nI s.2.2.2.1)) _ Q (PS_set hS7 (by decide) (by decide) _) (PM_fr hPM hF8) h1 (by rw [bSet_1]; omega) (by rw [bSet_p]; omega) (by rw [bSet_1]; omega) (by rw [bSet_p]; omega) (by omega) ?_ ?_ ?_ (fun z => absurd z (by omega)) (fun _ => ⟨?_, a9.1, by rw [bSet_1]; exact a9.2, i1, by rw [bSet_1]; omega⟩) (fun ρ N' k1 k2 hF hm => ?_)
        · rw [upd_other (by decide), upd_other (by decide), upd_other (by decide), p2]; exact hN2
        · rw [upd_other (by decide), upd_other (by decide), upd_same]; exact p100
        · rw [upd_same, upd_other (by decide), p6, n_add1]
        · rw [upd_other (by decide), upd_same, upd_other (by decide)]; exact p8
        refine hout ρ N' (k1.trans (by rw [upd_other (by decide), upd_other (by decide), upd_other (by decide)]; exact p1)) (k2.trans (by rw [upd_other (by decide), upd_other (by decide), upd_other (by decide)]; exact p2)) (FrM_tr hF8 hF) ?_
        cases y with
        | none => obtain ⟨m, m1, m2, m3⟩ := hm; exact ⟨m, m1, m2, by rw [bSet_1] at m3; omega⟩
        | some t => exact hm
      · rw [if_pos hyes] at hG
        exact bout ρ _ _ c (Option.some.inj hG).symm (q1 _) (q2 _) (q6 _) (by omega) (fun _ => ⟨q5 _, e1, e2⟩) hB (by omega) (by omega) hF
/-- a call, from the proc's name on -/
theorem p_call {f q v : Nat} {b : BT} {x : Option RT} {σ : MS} {L : Nat → Int32} {tg : Int32} (hG : gCl T n f md np p tg E o q v b = some x) (hK : tkK T n q = 26) (h47 : σ.1 47 = nI p) (hPM : PM σ md np p) (hL : L 1 = tg) (hS : PS T n E o q v b σ) (h1 : 1 ≤ M) (hM : M ≤ b.1) (hP : P ≤ b.2.1) (hn : b.1 + (n + 1 - q) + 967 ≤ 70000) (hp : b.2.1 + (n - q) ≤ 70000) : Tm (fun k => x_call k 0 L σ) (Po T n E o M P (b.1 + (n + 1 - q) + 964) σ x) := by
  have hq := PS_q hS
  have hv := PS_v hS
  have ho := PS_o hS
  have hu := tkN_b T n q hq.1
  have hu4 := hu.2.2.2 (by rw [hK]; decide)
  have hp41 : p < 41 := hPM.1
  have hnp8 : np ≤ 8 := hPM.2.1
  unfold gCl at hG
  have b16 : ∀ (ρ : MS) (m : Nat) (N : Nat → Int32), Bb m ρ → M ≤ m → m + 1 ≤ b.1 + (n + 1 - q) + 964 → FrM M P E.2.2.2.1 σ ρ → Tm (fun k => x_call k 16 N ρ) (Po T n E o M P (b.1 + (n + 1 - q) + 964) σ none) := fun ρ m N hB hMm hm hF => by
    refine Tm_suc (fun k => by rw [x_call]) ?_
    refine Tm_ob (b_want hB.1 _) (fun r1 hr1 => ?_)
    obtain ⟨u, τ⟩ := r1
    have hr1 : τ = ρ := hr1
    subst hr1
    refine Tm_ob (b_node (M := M) (P := P) (w := E.2.2.2.1) hB (by omega) hMm _) (fun r8 hr8 => ?_)
    exact Tm_some ⟨⟨_, hr8.2.1, hm, by omega⟩, ⟨_, hr8.1, by omega, Or.inr hMm⟩, FrM_tr hF hr8.2.2⟩
  have b14 : ∀ (ρ : MS) (m : Nat) (N : Nat → Int32), Bb m ρ → M ≤ m → m + 1 ≤ b.1 + (n + 1 - q) + 964 → FrM M P E.2.2.2.1 σ ρ → Tm (fun k => x_call k 14 N ρ) (Po T n E o M P (b.1 + (n + 1 - q) + 964) σ none) := fun ρ m N hB hMm hm hF => by
    refine Tm_suc (fun k => by rw [x_call]) ?_
    refine Tm_ite (fun z => absurd z hB.1) (fun _ => ?_)
    refine Tm_suc (fun k => by rw [x_call]) ?_
    exact b16 (mOpn ρ (ρ.1 13 - 1)) m N (Bb_opn hB _) hMm hm (FrM_tr hF (FrM_opn _))
  have b13 : ∀ (ρ : MS) (m : Nat) (N : Nat → Int32), Bb m ρ → M ≤ m → m + 1 ≤ b.1 + (n + 1 - q) + 964 → FrM M P E.2.2.2.1 σ ρ → Tm (fun k => x_call k 13 N ρ) (Po T n E o M P (b.1 + (n + 1 - q) + 964) σ none) := fun ρ m N hB hMm hm hF => by
    refine Tm_suc (fun k => by rw [x_call]) ?_
    exact Tm_ite (fun z => absurd z hB.1) (fun _ => b14 ρ m N hB hMm hm hF)
  have b12 : ∀ (ρ : MS) (m : Nat) (N : Nat → Int32), Bb m ρ → M ≤ m → m + 1 ≤ b.1 + (n + 1 - q) + 964 → FrM M P E.2.2.2.1 σ ρ → Tm (fun k => x_call k 12 N ρ) (Po T n E o M P (b.1 + (n + 1 - q) + 964) σ none) := fun ρ m N hB hMm hm hF => by
    refine Tm_suc (fun k => by rw [x_call]) ?_
    exact Tm_ite (fun z => absurd z hB.1) (fun _ => b13 ρ m N hB hMm hm hF)
  have b3 : ∀ (ρ : MS) (N : Nat → Int32), Bb b.1 ρ → FrM M P E.2.2.2.1 σ ρ → Tm (fun k => x_call k 3 N ρ) (Po T n E o M P (b.1 + (n + 1 - q) + 964) σ none) := fun ρ N hB hF => by
    refine Tm_suc (fun k => by rw [x_call]) ?_
    refine Tm_suc (fun k => by rw [x_call]) ?_
    exact Tm_ite (fun z => absurd z hB.1) (fun _ => b12 ρ _ _ hB hM (by omega) hF)
  have b2 : ∀ (ρ : MS) (N : Nat → Int32), Bb b.1 ρ → FrM M P E.2.2.2.1 σ ρ → Tm (fun k => x_call k 2 N ρ) (Po T n E o M P (b.1 + (n + 1 - q) + 964) σ none) := fun ρ N hB hF => by
    refine Tm_suc (fun k => by rw [x_call]) ?_
    exact Tm_ite (fun z => absurd z hB.1) (fun _ => b3 ρ N hB hF)
  have b1 : ∀ (ρ : MS) (N : Nat → Int32), Bb b.1 ρ → FrM M P E.2.2.2.1 σ ρ → Tm (fun k => x_call k 1 N ρ) (Po T n E o M P (b.1 + (n + 1 - q) + 964) σ none) := fun ρ N hB hF => by
    refine Tm_suc (fun k => by rw [x_call]) ?_
    exact Tm_ite (fun z => absurd z hB.1) (fun _ => b2 ρ N hB hF)
  refine Tm_suc (fun k => by rw [x_call]) ?_
  refine Tm_ob (p_take (M := M) (P := P) (w := E.2.2.2.1) hS _) (fun r1 hr1 => ?_)
  rw [h47]
  have n1 : upd (upd L 2 (nI p)) 3 (σ.1 8) 1 = tg := by rw [upd_other (by decide), upd_other (by decide)]; exact hL
  have n2 : upd (upd L 2 (nI p)) 3 (σ.1 8) 2 = nI p := by rw [upd_other (by decide), upd_same]
  generalize upd (upd L 2 (nI p)) 3 (σ.1 8) = N at n1 n2
  rcases gT_any hG with ⟨t1, rfl⟩ | ⟨t1, hG⟩
  · rcases hr1.2 with ⟨_, hB⟩ | ⟨z, _⟩
    · exact Tm_ite (fun z => absurd z hB.1) (fun _ => b1 r1.2 N hB hr1.1)
    · exact absurd t1 z
  rcases hr1.2 with ⟨z, _⟩ | ⟨_, hS1⟩
  · exact absurd z t1
  have hw := tkN_b T n (tkN T n q) hu.2.1
  refine Tm_ite (fun _ => ?_) (fun c => absurd (PS_ok hS1) c)
  refine Tm_ob (p_sign hS1 (s := 6) (by decide) (by decide) rfl) (fun r3 hr3 => ?_)
  obtain ⟨u, τ⟩ := r3
  obtain ⟨h3, hr3⟩ := hr3
  have h3 : τ = r1.2 := h3
  subst h3
  refine Tm_ite (fun z => ?_) (fun z => ?_)
  · rw [if_neg (fun y => hr3.mpr y z)] at hG
    have hx : x = none := (Option.some.inj hG).symm
    subst hx
    refine Tm_ob (p_fault (M := M) (P := P) (w := E.2.2.2.1) hS1 _) (fun r5 hr5 => ?_)
    exact b1 r5.2 N hr5.1 (FrM_tr hr1.1 hr5.2)
  have hK6 := hr3.mp z
  rw [if_pos hK6] at hG
  have hw4 := hw.2.2.2 (by rw [hK6]; decide)
  refine Tm_suc (fun k => by rw [x_call]) ?_
  refine Tm_ite (fun _ => ?_) (fun c => absurd (PS_ok hS1) c)
  refine Tm_ob (p_open (M := M) (P := P) (w := E.2.2.2.1) hS1 _) (fun r4 hr4 => ?_)
  have hF4 := FrM_tr hr1.1 hr4.1
  rcases gO_any hG with ⟨o0, rfl⟩ | ⟨o0, hG⟩
  · rcases hr4.2 with ⟨_, hB⟩ | ⟨y, _⟩
    · exact b2 r4.2 N hB hF4
    · omega
  rcases hr4.2 with ⟨y, _⟩ | ⟨ho2, hS4, _⟩
  · exact absurd y o0
  refine Tm_suc (fun k => by rw [x_call]) ?_
  refine Tm_ite (fun _ => ?_) (fun c => absurd (PS_ok hS4) c)
  refine Tm_ob (p_take (M := M) (P := P) (w := E.2.2.2.1) hS4 _) (fun r5 hr5 => ?_)
  have hF5 := FrM_tr hF4 hr5.1
  rcases gT_any hG with ⟨t5, rfl⟩ | ⟨t5, hG⟩
  · rcases hr5.2 with ⟨_, hB⟩ | ⟨z, _⟩
    · exact b3 r5.2 N hB hF5
    · exact absurd t5 z
  rcases hr5.2 with ⟨z, _⟩ | ⟨_, hS5⟩
  · exact absurd z t5
  refine Tm_suc (fun k => by rw [x_call]) ?_
  obtain ⟨y, hGa, hy⟩ : ∃ y, GA T n md np E f (o + 1) (tkN T n (tkN T n q)) v 0 0 0 b = some y ∧ (match y with | none => x = none | some r => (if tkK T n r.1 = 7 ∧ r.2.2.1 = np then gT T n r.1 (fun q3 => gW T n 13 q3 (fun q4 => some (some (q4, r.2.1, 0, r.2.2.2.2.1.1, bNode r.2.2.2.2.1 45 tg (hd r.2.2.2.1) (nI p), [])))) else some none) = some x) := by
    rcases gb_any hG with ⟨h9, hy⟩ | ⟨t, h9, hG⟩
    · exact ⟨none, h9, hy⟩
    · exact ⟨some t, h9, hG⟩
  refine call_loop (M := M) (P := P) (p := p) f _ _ _ _ _ _ y hGa r5.2 (upd (upd (upd N 4 (-1)) 5 (-1)) 6 0) _ hS5 (PM_fr hPM hF5) h1 hM hP (by omega) (by omega) (by omega) (by rw [upd_other (by decide), upd_other (by decide), upd_other (by decide)]; exact n2) (by rw [upd_other (by decide), upd_other (by decide), upd_same]; rfl) (by rw [upd_same]; rfl) (fun _ => rfl) (fun z => absurd rfl z) (fun ρ N' k1 k2 hF hm => ?_)
  have k1 : N' 1 = tg := by rw [k1, upd_other (by decide), upd_other (by decide), upd_other (by decide)]; exact n1
  have k2 : N' 2 = nI p := by rw [k2, upd_other (by decide), upd_other (by decide), upd_other (by decide)]; exact n2
  have hFρ := FrM_tr hF5 hF
  cases y with
  | none =>
    have hx : x = none := hy
    subst hx
    obtain ⟨m, j1, j2, j3⟩ := hm
    exact b12 ρ m N' j1 j2 (by omega) hFρ
  | some s =>
    have hG : (if tkK T n s.1 = 7 ∧ s.2.2.1 = np then gT T n s.1 (fun q3 => gW T n 13 q3 (fun q4 => some (some (q4, s.2.1, 0, s.2.2.2.2.1.1, bNode s.2.2.2.2.1 45 tg (hd s.2.2.2.1) (nI p), [])))) else some none) = some x := hy
    obtain ⟨hSs, m4, m6⟩ := hm
    obtain ⟨⟨a1, a2, a3, a4, a5, a6, a7, a8⟩, a9, a10⟩ := ga_mo f _ _ _ _ _ _ _ s M hw.2.1 hv hGa hM h1 (Nat.zero_le _) (Or.inl rfl)
    have hws := tkN_b T n s.1 a2
    have hPMρ := PM_fr hPM hFρ
    refine Tm_suc (fun k => by rw [x_call]) ?_
    refine Tm_ite (fun _ => ?_) (fun z => absurd (PS_ok hSs) z)
    refine Tm_ob (p_sign hSs (s := 7) (by decide) (by decide) rfl) (fun ra hra => ?_)
    obtain ⟨u, τ⟩ := ra
    obtain ⟨h3, hra⟩ := hra
    have h3 : τ = ρ := h3
    subst h3
    refine Tm_ite (fun z => ?_) (fun z => ?_)
    · rw [if_neg (fun y => hra.mpr y.1 z)] at hG
      have hx : x = none := (Option.some.inj hG).symm
      subst hx
      refine Tm_ob (p_cannot (M := M) (P := P) (w := E.2.2.2.1) hSs _) (fun rc hrc => ?_)
      exact b13 rc.2 _ N' hrc.1 (by omega) (by omega) (FrM_tr hFρ hrc.2)
    have hK7 := hra.mp z
    refine Tm_suc (fun k => by rw [x_call]) ?_
    refine Tm_ite (fun _ => ?_) (fun z => absurd (PS_ok hSs) z)
    rw [k2]
    refine Tm_chk (n_in (by omega) (by omega)) ?_
    rw [n_cl (p := p) (by omega), hPMρ.2.2.1, m6]
    refine Tm_ite (c := nI s.2.2.1 = nI np) (fun z => ?_) (fun z => ?_)
    · rw [n_eq (by omega) (by omega)] at z
      rw [if_pos ⟨hK7, z⟩] at hG
      have hws4 := hws.2.2.2 (by rw [hK7]; decide)
      refine Tm_suc (fun k => by rw [x_call]) ?_
      refine Tm_ite (fun _ => ?_) (fun z => absurd (PS_ok hSs) z)
      refine Tm_ob (p_take (M := M) (P := P) (w := E.2.2.2.1) hSs _) (fun rt hrt => ?_)
      refine Tm_suc (fun k => by rw [x_call]) ?_
      rcases gT_any hG with ⟨t6, rfl⟩ | ⟨t6, hG⟩
      · rcases hrt.2 with ⟨_, hB⟩ | ⟨y, _⟩
        · exact b16 (mOpn rt.2 (rt.2.1 13 - 1)) _ N' (Bb_opn hB _) (by omega) (by omega) (FrM_tr hFρ (FrM_tr hrt.1 (FrM_opn _)))
        · exact absurd t6 y
      rcases hrt.2 with ⟨y, _⟩ | ⟨_, hSt⟩
      · exact absurd y t6
      have hFt : FrM M P E.2.2.2.1 σ (mOpn rt.2 (rt.2.1 13 - 1)) := FrM_tr hFρ (FrM_tr hrt.1 (FrM_opn _))
      show Tm (fun k => x_call k 16 N' (mOpn rt.2 (rt.2.1 13 - 1))) _
      refine Tm_suc (fun k => by rw [x_call]) ?_
      refine Tm_ob (p_want (M := M) (P := P) (w := E.2.2.2.1) (PS_clo hSt) (s := 13) (by decide) (by decide) rfl) (fun rw' hrw => ?_)
      rcases gW_any hG with ⟨t7, rfl⟩ | ⟨t7, hG⟩
      · rcases hrw.2 with ⟨_, hB⟩ | ⟨y, _⟩
        · refine Tm_ob (b_node (M := M) (P := P) (w := E.2.2.2.1) hB (by omega) (by omega) _) (fun r8 hr8 => ?_)
          exact Tm_some ⟨⟨_, hr8.2.1, by omega, by omega⟩, ⟨_, hr8.1, by omega, Or.inr (by omega)⟩, FrM_tr hFt (FrM_tr hrw.1 hr8.2.2)⟩
        · exact absurd y t7
      rcases hrw.2 with ⟨y, _⟩ | ⟨_, hSw⟩
      · exact absurd t7 y
      refine Tm_ob (p_node (M := M) (P := P) (w := E.2.2.2.1) hSw (by omega) (by omega) _) (fun r8 hr8 => ?_)
      obtain ⟨hr81, hS8, hF8⟩ := hr8
      cases hG
      refine Tm_some ⟨?_, hr81, FrM_tr hFt (FrM_tr hrw.1 hF8)⟩
      have w2 : (upd (upd (upd (upd (fun _ => (0 : Int32)) 1 45) 2 (N' 1)) 3 (N' 4)) 4 (N' 2)) 2 = tg := by rw [upd_other (by decide), upd_other (by decide), upd_same]; exact k1
      have w3 : (upd (upd (upd (upd (fun _ => (0 : Int32)) 1 45) 2 (N' 1)) 3 (N' 4)) 4 (N' 2)) 3 = hd s.2.2.2.1 := by rw [upd_other (by decide), upd_same]; exact m4
      have w4 : (upd (upd (upd (upd (fun _ => (0 : Int32)) 1 45) 2 (N' 1)) 3 (N' 4)) 4 (N' 2)) 4 = nI p := by rw [upd_same]; exact k2
      rw [w2, w3, w4] at hS8
      exact hS8
    · rw [n_eq (by omega) (by omega)] at z
      rw [if_neg (fun y => z y.2)] at hG
      have hx : x = none := (Option.some.inj hG).symm
      subst hx
      refine Tm_ob (p_fault (M := M) (P := P) (w := E.2.2.2.1) hSs _) (fun rc hrc => ?_)
      exact b14 rc.2 _ N' hrc.1 (by omega) (by omega) (FrM_tr hFρ hrc.2)
end CALL
