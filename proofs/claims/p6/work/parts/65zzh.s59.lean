/-! A tuple of targets: the reference's. -/
section PTS
variable {T : Nat → Int32} {n : Nat} {E : En} {o M P : Nat}
theorem parts_loop : ∀ (f : Nat) (q v i e : Nat) (b : BT) (y : Option RT), GPt T n E f o q v i e b = some y → ∀ (σ : MS) (N : Nat → Int32) (Q : Int32 × MS → Prop), PS T n E o q v b σ → 1 ≤ M → M ≤ b.1 → P ≤ b.2.1 → b.1 + (n + 1 - q) + 967 ≤ 70000 → b.2.1 + (n - q) ≤ 70000 → N 1 = hd i → N 3 = 1 → (¬ i = 0 → N 2 = nI e ∧ M ≤ e ∧ e < b.1 ∧ M ≤ i ∧ i < b.1) →
    (∀ (ρ : MS) (N' : Nat → Int32), FrM M P E.2.2.2.1 σ ρ → (match y with
      | none => ∃ m, Bb m ρ ∧ M ≤ m ∧ m ≤ b.1 + (n + 1 - q) + 963
      | some s => PS T n E o s.1 s.2.1 s.2.2.2.2.1 ρ ∧ N' 1 = nI s.2.2.2.1) → Tm (fun k => x_partsOf k 10 N' ρ) Q) → Tm (fun k => x_partsOf k 2 N σ) Q
  | 0 => fun q v i e b y hG => by simp only [GPt] at hG; cases hG
  | f + 1 => fun q v i e b y hG σ N Q hS h1 hM hP hn hp hN1 hN3 hN2 hout => by
    simp only [GPt] at hG
    have hq := PS_q hS
    have hv := PS_v hS
    have hu := tkN_b T n q hq.1
    have ih := parts_loop f
    have hi70 : i < 70000 := by
      by_cases c : i = 0
      · omega
      · have := (hN2 c).2.2.2.2; omega
    have hN2' : ¬ i = 0 → N 2 = nI e ∧ M ≤ e ∧ e < b.1 := fun z => ⟨(hN2 z).1, (hN2 z).2.1, (hN2 z).2.2.1⟩
    have bad : ∀ (ρ : MS) (N' : Nat → Int32) (m : Nat), y = none → N' 1 = N 1 → N' 2 = N 2 → Bb m ρ → M ≤ m → m ≤ b.1 + (n + 1 - q) + 963 → FrM M P E.2.2.2.1 σ ρ → Tm (fun k => x_partsOf k 4 N' ρ) Q := fun ρ N' m hy k1 k2 hB m1 m2 hF => by
      subst hy
      exact pts_bad (i := i) (e := e) (b := b) hB hF (by rw [k1]; exact hN1) hi70 (fun z => by rw [k2]; exact hN2' z) (by omega) (fun ρ N' hF hB => hout ρ N' hF ⟨m, hB, m1, m2⟩)
    have good : ∀ (s : RT) (ρ : MS) (N' : Nat → Int32), gHo T n f E o q v b = some (some s) → (if tkK T n s.1 = 12 then gT T n s.1 (fun q1 => GPt T n E f o q1 s.2.1 (fst2 i s.2.2.2.1) s.2.2.2.1 (bLnk i e s.2.2.2.1 s.2.2.2.2.1)) else some (some (s.1, s.2.1, 0, fst2 i s.2.2.2.1, bLnk i e s.2.2.2.1 s.2.2.2.2.1, []))) = some y → N' 1 = N 1 → N' 2 = N 2 → N' 4 = nI s.2.2.2.1 → PS T n E o s.1 s.2.1 s.2.2.2.2.1 ρ → FrM M P E.2.2.2.1 σ ρ → Tm (fun k => x_partsOf k 4 N' ρ) Q := fun s ρ N' h7 hG k1 k2 k4 hS7 hF => by
      obtain ⟨⟨a1, a2, a3, a4, a5, a6, a7, a8⟩, a9, a10⟩ := gHo_mo (M := M) hq.1 hv hM h1 h7
      have hf2 := fst2_b (M := M) (m := s.2.2.2.2.1.1) (i := i) (fun z => ⟨(hN2 z).2.2.2.1, by have := (hN2 z).2.2.2.2; omega⟩) a9
      have hus := tkN_b T n s.1 a2
      refine pts_good (i := i) (e := e) (x := s.2.2.2.1) (b0 := b) hS7 hF (by rw [k1]; exact hN1) hi70 (fun z => by rw [k2]; exact ⟨(hN2 z).1, (hN2 z).2.1, by have := (hN2 z).2.2.1; omega⟩) k4 (by omega) (by omega) ?_ ?_ ?_
      · intro ρ N' hK hF hS hN'
        rw [if_neg hK] at hG
        cases hG
        exact hout ρ N' hF ⟨hS, hN'⟩
      · intro ρ N' hK t hF hB
        rw [if_pos hK] at hG
        rcases gT_any hG with ⟨_, hy⟩ | ⟨z, _⟩
        · subst hy
          exact hout ρ N' hF ⟨_, hB, by omega, by omega⟩
        · exact absurd t z
      · intro ρ N' hK t hF hS j1 j2 j3
        rw [if_pos hK] at hG
        rcases gT_any hG with ⟨z, _⟩ | ⟨_, hG⟩
        · exact absurd z t
        have hus4 := hus.2.2.2 (by rw [hK]; decide)
        refine ih _ _ _ _ _ _ hG ρ N' Q hS h1 (by rw [bLnk_1]; omega) (by rw [bLnk_p]; omega) (by rw [bLnk_1]; omega) (by rw [bLnk_p]; omega) j1 j3 (fun _ => ⟨j2, a9.1, by rw [bLnk_1]; exact a9.2, hf2.1, by rw [bLnk_1]; exact hf2.2⟩) ?_
        intro ρ' N'' hF' hm
        refine hout ρ' N'' (FrM_tr hF hF') ?_
        cases y with
        | none =>
          obtain ⟨m, l1, l2, l3⟩ := hm
          rw [bLnk_1] at l3
          exact ⟨m, l1, l2, by omega⟩
        | some s => exact hm
    refine Tm_suc (fun k => by rw [x_partsOf]) ?_
    rw [hN3]
    refine Tm_ite (c := (1 : Int32) = 0) (fun z => absurd z (by decide)) (fun _ => ?_)
    refine Tm_ite (fun _ => ?_) (fun z => absurd (PS_ok hS) z)
    refine Tm_ob (p_sign hS (s := 3) (by decide) (by decide) rfl) (fun r3 hr3 => ?_)
    obtain ⟨u, τ⟩ := r3
    obtain ⟨h3, hr3⟩ := hr3
    have h3 : τ = σ := h3
    subst h3
    refine Tm_ite (fun z => ?_) (fun z => ?_)
    · have hK : ¬ tkK T n q = 3 := fun y => hr3.mpr y z
      have eH : gHo T n f E o q v b = gTg T n f E o q v b := if_neg hK
      refine Tm_suc (fun k => by rw [x_partsOf]) ?_
      rcases gb_any hG with ⟨h7, hy⟩ | ⟨s, h7, hG⟩
      · rw [eH] at h7
        refine Tm_ob (p_target (M := M) (P := P) h7 hS h1 hM hP (by omega) (by omega)) (fun r7 hr7 => ?_)
        obtain ⟨⟨m1, hm, hmk, hMm⟩, _, hF7⟩ := hr7
        exact bad r7.2 _ m1 hy (by rw [upd_other (by decide), upd_other (by decide)]) (by rw [upd_other (by decide), upd_other (by decide)]) hm hMm hmk hF7
      · have h7' := h7
        rw [eH] at h7
        refine Tm_ob (p_target (M := M) (P := P) h7 hS h1 hM hP (by omega) (by omega)) (fun r7 hr7 => ?_)
        obtain ⟨hS7, hr71, hF7⟩ := hr7
        exact good s r7.2 _ h7' hG (by rw [upd_other (by decide), upd_other (by decide)]) (by rw [upd_other (by decide), upd_other (by decide)]) (by rw [upd_same]; exact hr71) hS7 hF7
    · have hK := hr3.mp z
      have eH : gHo T n f E o q v b = gT T n q (fun q1 => some (some (q1, v, 0, b.1, bNode b 32 0 0 0, []))) := if_pos hK
      refine Tm_ob (p_nd (M := M) (P := P) (w := E.2.2.2.1) hS (by omega) hM) (fun r5 hr5 => ?_)
      refine Tm_ob (p_take (M := M) (P := P) (w := E.2.2.2.1) hr5.2.1 _) (fun r6 hr6 => ?_)
      rcases gb_any hG with ⟨h7, hy⟩ | ⟨s, h7, hG⟩
      · rw [eH] at h7
        rcases gT_any h7 with ⟨t, _⟩ | ⟨t, h7⟩
        · rcases hr6.2 with ⟨_, hB⟩ | ⟨z, _⟩
          · rw [bNode_1] at hB
            exact bad r6.2 _ _ hy (by rw [upd_other (by decide)]) (by rw [upd_other (by decide)]) hB (by omega) (by omega) (FrM_tr hr5.2.2 hr6.1)
          · exact absurd t z
        · cases h7
      · have h7' := h7
        rw [eH] at h7
        rcases gT_any h7 with ⟨t, h⟩ | ⟨t, h7⟩
        · cases h
        rcases hr6.2 with ⟨z, _⟩ | ⟨_, hS6⟩
        · exact absurd z t
        cases h7
        exact good _ r6.2 _ h7' hG (by rw [upd_other (by decide)]) (by rw [upd_other (by decide)]) (by rw [upd_same]; exact hr5.1) hS6 (FrM_tr hr5.2.2 hr6.1)
/-- from := on -/
theorem pts11b {m K : Nat} {σ ρ : MS} {N : Nat → Int32} (hB : Bb m ρ) (hF : FrM M P E.2.2.2.1 σ ρ) (hm : m < 70000) (hK : m + 1 ≤ K) (hM : M ≤ m) : Tm (fun k => x_partsOf k 11 N ρ) (Po T n E o M P K σ none) := by
  refine Tm_suc (fun k => by rw [x_partsOf]) ?_
  refine Tm_ob (b_want hB.1 _) (fun r hr => ?_)
  obtain ⟨u, τ⟩ := r
  have hr : τ = ρ := hr
  subst hr
  refine Tm_ob (b_xexp hB.1 _) (fun r hr => ?_)
  subst hr
  refine Tm_ob (b_want hB.1 _) (fun r hr => ?_)
  obtain ⟨u, ρ⟩ := r
  have hr : ρ = τ := hr
  subst hr
  refine Tm_ob (b_node (M := M) (P := P) (w := E.2.2.2.1) hB hm hM _) (fun r hr => ?_)
  exact Tm_some ⟨⟨_, hr.2.1, hK, by omega⟩, ⟨_, hr.1, by omega, Or.inr hM⟩, FrM_tr hF hr.2.2⟩
theorem pts10b {m K : Nat} {σ ρ : MS} {N : Nat → Int32} (hB : Bb m ρ) (hF : FrM M P E.2.2.2.1 σ ρ) (hm : m < 70000) (hK : m + 1 ≤ K) (hM : M ≤ m) : Tm (fun k => x_partsOf k 10 N ρ) (Po T n E o M P K σ none) := by
  refine Tm_suc (fun k => by rw [x_partsOf]) ?_
  refine Tm_ob (b_want hB.1 _) (fun r hr => ?_)
  obtain ⟨u, τ⟩ := r
  have hr : τ = ρ := hr
  subst hr
  show Tm (fun k => x_partsOf k 11 N (mOpn τ (τ.1 13 - 1))) _
  exact pts11b (Bb_opn hB _) (FrM_tr hF (FrM_opn _)) hm hK hM
/-- a loop after a fault before it -/
theorem pts1b {m K : Nat} {σ ρ : MS} {N : Nat → Int32} (hB : Bb m ρ) (hF : FrM M P E.2.2.2.1 σ ρ) (hm : m < 70000) (hK : m + 1 ≤ K) (hM : M ≤ m) : Tm (fun k => x_partsOf k 1 N ρ) (Po T n E o M P K σ none) := by
  refine Tm_suc (fun k => by rw [x_partsOf]) ?_
  refine Tm_suc (fun k => by rw [x_partsOf]) ?_
  refine Tm_ite (fun z => absurd z (by rw [upd_same]; decide)) (fun _ => ?_)
  refine Tm_ite (fun z => absurd z hB.1) (fun _ => ?_)
  exact pts10b hB hF hm hK hM
theorem pts11 {f q v i K : Nat} {b : BT} {x : Option RT} {σ ρ : MS} {N : Nat → Int32} (hG : gW T n 1 q (fun q3 => gb (G T n f 0 E o q3 v 0 0 0 0 b) (fun s => gW T n 13 s.1 (fun q4 => some (some (q4, s.2.1, 0, s.2.2.2.2.1.1, bNode s.2.2.2.2.1 42 (nI i) (nI s.2.2.2.1) 0, []))))) = some x) (hS : PS T n E o q v b ρ) (hF : FrM M P E.2.2.2.1 σ ρ) (hN : N 1 = nI i) (h1 : 1 ≤ M) (hM : M ≤ b.1) (hP : P ≤ b.2.1) (hn : b.1 + (n + 1 - q) + 967 ≤ 70000) (hp : b.2.1 + (n - q) ≤ 70000) (hK : b.1 + (n + 1 - q) + 964 ≤ K) : Tm (fun k => x_partsOf k 11 N ρ) (Po T n E o M P K σ x) := by
  have hq := PS_q hS
  have hv := PS_v hS
  have hu := tkN_b T n q hq.1
  refine Tm_suc (fun k => by rw [x_partsOf]) ?_
  rw [hN]
  -- from the third want on
  have cb : ∀ (ρ' : MS) (m : Nat) (y : Int32), Bb m ρ' → FrM M P E.2.2.2.1 σ ρ' → m < 70000 → m + 1 ≤ K → M ≤ m → Tm (fun k => ob (x_want k 0 (upd (fun _ => 0) 1 13) ρ') (fun r3 => ob (x_node k 0 (upd (upd (upd (upd (fun _ => 0) 1 42) 2 (nI i)) 3 y) 4 0) r3.2) (fun r4 => some (r4.1, r4.2)))) (Po T n E o M P K σ none) := fun ρ' m y hB hF hm hK hM => by
    refine Tm_ob (b_want hB.1 _) (fun r hr => ?_)
    obtain ⟨u, τ⟩ := r
    have hr : τ = ρ' := hr
    subst hr
    refine Tm_ob (b_node (M := M) (P := P) (w := E.2.2.2.1) hB hm hM _) (fun r hr => ?_)
    exact Tm_some ⟨⟨_, hr.2.1, hK, by omega⟩, ⟨_, hr.1, by omega, Or.inr hM⟩, FrM_tr hF hr.2.2⟩
  refine Tm_ob (p_want (M := M) (P := P) (w := E.2.2.2.1) hS (s := 1) (by decide) (by decide) rfl) (fun r1 hr1 => ?_)
  rcases gW_any hG with ⟨t1, rfl⟩ | ⟨t1, hG⟩
  · rcases hr1.2 with ⟨_, hB⟩ | ⟨y, _⟩
    · refine Tm_ob (b_xexp hB.1 _) (fun r hr => ?_)
      subst hr
      exact cb r1.2 _ _ hB (FrM_tr hF hr1.1) (by omega) (by omega) hM
    · exact absurd y t1
  rcases hr1.2 with ⟨y, _⟩ | ⟨_, hS1⟩
  · exact absurd t1 y
  have hF1 := FrM_tr hF hr1.1
  have hu4 := hu.2.2.2 (by rw [t1.1]; decide)
  rcases gb_any hG with ⟨h7, hy⟩ | ⟨s, h7, hG⟩
  · subst hy
    refine Tm_ob (p_exp (M := M) (P := P) h7 hS1 h1 hM hP (by omega) (by omega)) (fun r2 hr2 => ?_)
    obtain ⟨⟨m1, hm, hmk, hMm⟩, _, hF2⟩ := hr2
    exact cb r2.2 _ _ hm (FrM_tr hF1 hF2) (by omega) (by omega) hMm
  obtain ⟨⟨a1, a2, a3, a4, a5, a6, a7, a8⟩, a9⟩ := mo_of (M := M) hu.2.1 hv h7 hM h1 trivial (fun h => h) (fun h => h)
  refine Tm_ob (p_exp (M := M) (P := P) h7 hS1 h1 hM hP (by omega) (by omega)) (fun r2 hr2 => ?_)
  obtain ⟨hS2, hr21, hF2⟩ := hr2
  have hF2 := FrM_tr hF1 hF2
  rw [hr21]
  refine Tm_ob (p_want (M := M) (P := P) (w := E.2.2.2.1) hS2 (s := 13) (by decide) (by decide) rfl) (fun r3 hr3 => ?_)
  rcases gW_any hG with ⟨t3, rfl⟩ | ⟨t3, hG⟩
  · rcases hr3.2 with ⟨_, hB⟩ | ⟨y, _⟩
    · refine Tm_ob (b_node (M := M) (P := P) (w := E.2.2.2.1) hB (by omega) (by omega) _) (fun r hr => ?_)
      exact Tm_some ⟨⟨_, hr.2.1, by omega, by omega⟩, ⟨_, hr.1, by omega, Or.inr (by omega)⟩, FrM_tr hF2 (FrM_tr hr3.1 hr.2.2)⟩
    · exact absurd y t3
  rcases hr3.2 with ⟨y, _⟩ | ⟨_, hS3⟩
  · exact absurd t3 y
  refine Tm_ob (p_nd (M := M) (P := P) (w := E.2.2.2.1) hS3 (by omega) (by omega)) (fun r hr => ?_)
  cases hG
  exact Tm_some ⟨hr.2.1, hr.1, FrM_tr hF2 (FrM_tr hr3.1 hr.2.2)⟩
theorem p_partsOf {f q v : Nat} {b : BT} {x : Option RT} {σ : MS} {L : Nat → Int32} (hG : gPa T n f E o q v b = some x) (hK : ¬ tkK T n q = 25) (hS : PS T n E o q v b σ) (h1 : 1 ≤ M) (hM : M ≤ b.1) (hP : P ≤ b.2.1) (hn : b.1 + (n + 1 - q) + 967 ≤ 70000) (hp : b.2.1 + (n - q) ≤ 70000) : Tm (fun k => x_partsOf k 0 L σ) (Po T n E o M P (b.1 + (n + 1 - q) + 964) σ x) := by
  have hq := PS_q hS
  have hv := PS_v hS
  have ho := PS_o hS
  have hu := tkN_b T n q hq.1
  have hu4 := hu.2.2.2 hK
  unfold gPa at hG
  refine Tm_suc (fun k => by rw [x_partsOf]) ?_
  refine Tm_ob (p_open (M := M) (P := P) (w := E.2.2.2.1) hS _) (fun r1 hr1 => ?_)
  rcases gO_any hG with ⟨t1, rfl⟩ | ⟨t1, hG⟩
  · rcases hr1.2 with ⟨_, hB⟩ | ⟨y, _⟩
    · refine Tm_ite (fun z => absurd z hB.1) (fun _ => ?_)
      exact pts1b hB hr1.1 (by omega) (by omega) hM
    · omega
  rcases hr1.2 with ⟨y, _⟩ | ⟨_, hS1, _⟩
  · exact absurd y t1
  refine Tm_ite (fun _ => ?_) (fun z => absurd (PS_ok hS1) z)
  refine Tm_ob (p_take (M := M) (P := P) (w := E.2.2.2.1) hS1 _) (fun r3 hr3 => ?_)
  have hF3 := FrM_tr hr1.1 hr3.1
  rcases gT_any hG with ⟨t3, rfl⟩ | ⟨t3, hG⟩
  · rcases hr3.2 with ⟨_, hB⟩ | ⟨z, _⟩
    · exact pts1b hB hF3 (by omega) (by omega) hM
    · exact absurd t3 z
  rcases hr3.2 with ⟨z, _⟩ | ⟨_, hS3⟩
  · exact absurd z t3
  refine Tm_suc (fun k => by rw [x_partsOf]) ?_
  obtain ⟨y, hy⟩ : ∃ y, GPt T n E f (o + 1) (tkN T n q) v 0 0 b = some y := by
    rcases gb_any hG with ⟨h, _⟩ | ⟨t, h, _⟩
    · exact ⟨_, h⟩
    · exact ⟨_, h⟩
  refine parts_loop (M := M) (P := P) f _ _ _ _ _ y hy r3.2 _ _ hS3 h1 hM hP (by omega) (by omega) (by rw [upd_other (by decide), upd_other (by decide), upd_same]; rfl) upd_same (fun z => absurd rfl z) ?_
  intro ρ N' hFρ hm
  have hFρ := FrM_tr hF3 hFρ
  rw [hy] at hG
  cases y with
  | none =>
    obtain ⟨m, j1, j2, j3⟩ := hm
    have hx : x = none := (Option.some.inj hG).symm
    subst hx
    exact pts10b j1 hFρ (by omega) (by omega) j2
  | some s =>
    have hG : gW T n 11 s.1 (fun q2 => gW T n 1 q2 (fun q3 => gb (G T n f 0 E o q3 s.2.1 0 0 0 0 s.2.2.2.2.1) (fun t => gW T n 13 t.1 (fun q4 => some (some (q4, t.2.1, 0, t.2.2.2.2.1.1, bNode t.2.2.2.2.1 42 (nI s.2.2.2.1) (nI t.2.2.2.1) 0, [])))))) = some x := hG
    obtain ⟨hSs, k1⟩ := hm
    obtain ⟨⟨a1, a2, a3, a4, a5, a6, a7, a8⟩, a9, a10⟩ := gpt_mo f _ _ _ _ _ _ s M hu.2.1 hv hy hM h1 (fun z => absurd rfl z)
    have hus := tkN_b T n s.1 a2
    refine Tm_suc (fun k => by rw [x_partsOf]) ?_
    refine Tm_ob (p_want (M := M) (P := P) (w := E.2.2.2.1) hSs (s := 11) (by decide) (by decide) rfl) (fun r6 hr6 => ?_)
    show Tm (fun k => x_partsOf k 11 N' (mOpn r6.2 (r6.2.1 13 - 1))) _
    have hF6 : FrM M P E.2.2.2.1 σ (mOpn r6.2 (r6.2.1 13 - 1)) := FrM_tr hFρ (FrM_tr hr6.1 (FrM_opn _))
    rcases gW_any hG with ⟨t6, rfl⟩ | ⟨t6, hG⟩
    · rcases hr6.2 with ⟨_, hB⟩ | ⟨y, _⟩
      · exact pts11b (Bb_opn hB _) hF6 (by omega) (by omega) (by omega)
      · exact absurd y t6
    rcases hr6.2 with ⟨y, _⟩ | ⟨_, hS6⟩
    · exact absurd t6 y
    exact pts11 hG (PS_clo hS6) hF6 k1 h1 (by omega) (by omega) (by omega) (by omega) (by omega)
end PTS
