/-! A name that begins an operand. -/
theorem fd_loc (E : En) (s : List Int32) : (fd E s).2.2 = 0 ∨ (fd E s).2.2 = 1 := by
  unfold fd
  cases E.2.1.find? (fun x => decide (x.1 = s)) with
  | some x =>
    by_cases h : E.2.2.2.1 = 0
    · exact Or.inl (if_pos h)
    · exact Or.inr (if_neg h)
  | none => cases E.1.find? (fun x => decide (x.1 = s)) with
    | some x => exact Or.inl rfl
    | none => exact Or.inl rfl
/-- so many exps are no more than bytes -/
theorem g_cnt (T : Nat → Int32) (n : Nat) : ∀ (f : Nat) (E : En) (o q v i e c : Nat) (b : BT) (r : RT), G T n f 14 E o q v i e c 0 b = some (some r) → q ≤ n → c ≤ q → v ≤ 60 → 1 ≤ b.1 → r.2.2.1 ≤ r.1
  | 0 => fun E o q v i e c b r hG => by simp only [G] at hG; cases hG
  | f + 1 => fun E o q v i e c b r hG hq hc hv hb => by
    rw [G_14] at hG
    by_cases c0 : c = 0
    · rw [if_pos c0] at hG
      by_cases k7 : tkK T n q = 7
      · rw [if_pos k7] at hG; cases hG; exact Nat.zero_le _
      · rw [if_neg k7] at hG
        obtain ⟨s, h7, hG⟩ := gb_s hG
        obtain ⟨⟨a1, a2, a3, a4, a5, a6, a7, a8⟩, a9⟩ := mo_of (M := b.1) hq hv h7 (Nat.le_refl _) hb trivial (fun h => h) (fun h => h)
        exact g_cnt T n f _ _ _ _ _ _ _ _ _ hG a2 (by omega) (by omega) (by omega)
    · rw [if_neg c0] at hG
      by_cases k12 : tkK T n q = 12
      · rw [if_pos k12] at hG
        obtain ⟨_, hG⟩ := gT_s hG
        obtain ⟨s, h7, hG⟩ := gb_s hG
        have hu := tkN_b T n q hq
        obtain ⟨⟨a1, a2, a3, a4, a5, a6, a7, a8⟩, a9⟩ := mo_of (M := b.1) hu.2.1 hv h7 (Nat.le_refl _) hb trivial (fun h => h) (fun h => h)
        exact g_cnt T n f _ _ _ _ _ _ _ _ _ hG a2 (by omega) (by omega) (by rw [bSet_1]; omega)
      · rw [if_neg k12] at hG; cases hG; exact hc
section CALLS
variable {T : Nat → Int32} {n o M P d : Nat} {E : En}
theorem m_name {f q v : Nat} {b : BT} {x : Option RT} {σ : MS} {L : Nat → Int32} (H : ∀ f', f' < f → S0 T n f')
    (hG : gT T n q (fun q1 =>
        if (fd E (tkS T n q)).1 = 1 then some (some (q1, v, 1, b.1, bNode b 7 (fd E (tkS T n q)).2.2 (nI (fd E (tkS T n q)).2.1) 0, []))
        else if (fd E (tkS T n q)).1 = 2 ∧ tkK T n q1 = 6 then gO o (gT T n q1 (fun q2 => gb (G T n f 14 E (o + 1) q2 v 0 0 0 0 b) (fun r =>
          if tkK T n r.1 = 7 ∧ r.2.2.1 = E.2.2.2.2.2.2 (fd E (tkS T n q)).2.1 then gT T n r.1 (fun q3 => some (some (q3, r.2.1, 0, r.2.2.2.2.1.1, bWrap r.2.2.2.2.1 8 (nI (fd E (tkS T n q)).2.1) (hd r.2.2.2.1) (nI r.2.2.1) (nI (o + 1)), []))) else some none)))
        else some none) = some x)
    (hK : tkK T n q = 26) (hS : PS T n E o q v b σ) (h1 : 1 ≤ M) (hM : M ≤ b.1) (hP : P ≤ b.2.1) (hn : b.1 + (n + 1 - q) + 3 * (d + 3) ≤ 70000) (hp : b.2.1 + (n - q) ≤ 70000) (hdd : 12 * (21 - o) + 2 ≤ d + 1) : Tm (fun k => x_GE k (d + 1) 6 0 L σ) (Po T n E o M P (b.1 + (n + 1 - q) + 3 * (d + 2)) σ x) := by
  have hq := PS_q hS
  have hv := PS_v hS
  have ho := PS_o hS
  have hu := tkN_b T n q hq.1
  have hu4 := hu.2.2.2 (by rw [hK]; decide)
  -- from 15 on, behind a fault
  have b17 : ∀ (ρ : MS) (m : Nat) (N : Nat → Int32), Bb m ρ → M ≤ m → m + 1 ≤ b.1 + (n + 1 - q) + 3 * (d + 2) → FrM M P E.2.2.2.1 σ ρ → Tm (fun k => x_GE k (d + 1) 6 17 N ρ) (Po T n E o M P (b.1 + (n + 1 - q) + 3 * (d + 2)) σ none) := fun ρ m N hB hMm hm hF => by
    refine Tm_suc (fun k => by rw [xE_6]) ?_
    refine Tm_ite (c := ρ.1 10 = 0) (fun z => absurd z hB.1) (fun _ => ?_)
    refine Tm_suc (fun k => by rw [xE_6]) ?_
    show Tm (fun k => x_GE k (d + 1) 6 19 N (mOpn ρ (ρ.1 13 - 1))) _
    refine Tm_suc (fun k => by rw [xE_6]) ?_
    refine Tm_ob (b_wrapped (M := M) (P := P) (w := E.2.2.2.1) (Bb_opn hB _) (by omega) hMm _) (fun r8 hr8 => ?_)
    exact Tm_some ⟨⟨_, hr8.2.1, hm, by omega⟩, ⟨_, hr8.1, by omega, Or.inr hMm⟩, FrM_tr hF (FrM_tr (FrM_opn _) hr8.2.2)⟩
  have b16 : ∀ (ρ : MS) (m : Nat) (N : Nat → Int32), Bb m ρ → M ≤ m → m + 1 ≤ b.1 + (n + 1 - q) + 3 * (d + 2) → FrM M P E.2.2.2.1 σ ρ → Tm (fun k => x_GE k (d + 1) 6 16 N ρ) (Po T n E o M P (b.1 + (n + 1 - q) + 3 * (d + 2)) σ none) := fun ρ m N hB hMm hm hF => by
    refine Tm_suc (fun k => by rw [xE_6]) ?_
    exact Tm_ite (c := ρ.1 10 = 0) (fun z => absurd z hB.1) (fun _ => b17 ρ m N hB hMm hm hF)
  have b15 : ∀ (ρ : MS) (m : Nat) (N : Nat → Int32), Bb m ρ → M ≤ m → m + 1 ≤ b.1 + (n + 1 - q) + 3 * (d + 2) → FrM M P E.2.2.2.1 σ ρ → Tm (fun k => x_GE k (d + 1) 6 15 N ρ) (Po T n E o M P (b.1 + (n + 1 - q) + 3 * (d + 2)) σ none) := fun ρ m N hB hMm hm hF => by
    refine Tm_suc (fun k => by rw [xE_6]) ?_
    exact Tm_ite (c := ρ.1 10 = 0) (fun z => absurd z hB.1) (fun _ => b16 ρ m N hB hMm hm hF)
  have b7 : ∀ (ρ : MS) (m : Nat) (N : Nat → Int32), Bb m ρ → M ≤ m → m + 1 ≤ b.1 + (n + 1 - q) + 3 * (d + 2) → FrM M P E.2.2.2.1 σ ρ → Tm (fun k => x_GE k (d + 1) 6 7 N ρ) (Po T n E o M P (b.1 + (n + 1 - q) + 3 * (d + 2)) σ none) := fun ρ m N hB hMm hm hF => by
    refine Tm_suc (fun k => by rw [xE_6]) ?_
    show Tm (fun k => x_GE k (d + 1) 6 8 (upd (upd (upd N 6 (-1)) 7 (-1)) 8 0) ρ) _
    refine Tm_suc (fun k => by rw [xE_6]) ?_
    exact Tm_ite (c := ρ.1 10 = 0) (fun z => absurd z hB.1) (fun _ => b15 ρ m _ hB hMm hm hF)
  have b2 : ∀ (ρ : MS) (N : Nat → Int32), Bb b.1 ρ → FrM M P E.2.2.2.1 σ ρ → Tm (fun k => x_GE k (d + 1) 6 2 N ρ) (Po T n E o M P (b.1 + (n + 1 - q) + 3 * (d + 2)) σ none) := fun ρ N hB hF => by
    refine Tm_suc (fun k => by rw [xE_6]) ?_
    exact Tm_ite (c := ρ.1 10 = 0) (fun z => absurd z hB.1) (fun _ => Tm_some ⟨⟨_, hB, by omega, hM⟩, ⟨0, rfl, by decide, Or.inl rfl⟩, hF⟩)
  refine Tm_suc (fun k => by rw [xE_6]) ?_
  refine Tm_ob (p_find (M := M) (P := P) (w := E.2.2.2.1) hS (by omega) _) (fun r1 hr1 => ?_)
  obtain ⟨hS1, hF1, hsame, h46, hF3, h47, hcal⟩ := hr1
  have hloc := fd_loc E (tkS T n q)
  refine Tm_ob (p_take (M := M) (P := P) (w := E.2.2.2.1) hS1 _) (fun r2 hr2 => ?_)
  have hF2 := FrM_tr hF1 hr2.1
  have n2 : upd (upd (upd (upd L 1 (σ.1 8)) 2 (r1.2.1 46)) 3 (r1.2.1 47)) 4 (r1.2.1 48) 2 = nI (fd E (tkS T n q)).1 := by rw [upd_other (by decide), upd_other (by decide), upd_same]; exact h46
  have n3 : upd (upd (upd (upd L 1 (σ.1 8)) 2 (r1.2.1 46)) 3 (r1.2.1 47)) 4 (r1.2.1 48) 3 = r1.2.1 47 := by rw [upd_other (by decide), upd_same]
  have n4 : upd (upd (upd (upd L 1 (σ.1 8)) 2 (r1.2.1 46)) 3 (r1.2.1 47)) 4 (r1.2.1 48) 4 = r1.2.1 48 := upd_same
  generalize upd (upd (upd (upd L 1 (σ.1 8)) 2 (r1.2.1 46)) 3 (r1.2.1 47)) 4 (r1.2.1 48) = N at n2 n3 n4
  rcases gT_any hG with ⟨t0, rfl⟩ | ⟨t0, hG⟩
  · rcases hr2.2 with ⟨_, hB⟩ | ⟨z, _⟩
    · exact Tm_ite (c := r2.2.1 10 = 0) (fun z => absurd z hB.1) (fun _ => b2 r2.2 N hB hF2)
    · exact absurd t0 z
  rcases hr2.2 with ⟨z, _⟩ | ⟨_, hS2⟩
  · exact absurd z t0
  have hw := tkN_b T n (tkN T n q) hu.2.1
  rw [h46]
  generalize hFd : fd E (tkS T n q) = F at hG h46 hF3 h47 hcal hloc n2
  -- a fault at the name
  have flt : x = none → Tm (fun k => x_GE k (d + 1) 6 1 N r2.2) (Po T n E o M P (b.1 + (n + 1 - q) + 3 * (d + 2)) σ x) := fun hx => by
    subst hx
    refine Tm_suc (fun k => by rw [xE_6]) ?_
    refine Tm_ob (p_fault (M := M) (P := P) (w := E.2.2.2.1) hS2 _) (fun r6 hr6 => ?_)
    exact b2 r6.2 N hr6.1 (FrM_tr hF2 hr6.2)
  refine Tm_ite (c := r2.2.1 10 = 0) (fun _ => ?_) (fun z => absurd (PS_ok hS2) z)
  refine Tm_ite (c := nI F.1 = 0) (fun z => ?_) (fun z => ?_)
  · rw [n_eq0 (by omega)] at z
    rw [if_neg (by omega), if_neg (by omega)] at hG
    exact flt (Option.some.inj hG).symm
  rw [n_eq0 (by omega)] at z
  obtain ⟨h47, h48, hF60⟩ := h47 z
  refine Tm_ite (c := nI F.1 = 3) (fun z3 => ?_) (fun z3 => ?_)
  · have z3 : nI F.1 = nI 3 := z3
    rw [n_eq (by omega) (by omega)] at z3
    rw [if_neg (by omega), if_neg (by omega)] at hG
    exact flt (Option.some.inj hG).symm
  have z3 : ¬ nI F.1 = nI 3 := z3
  rw [n_eq (by omega) (by omega)] at z3
  refine Tm_ite (c := nI F.1 = 2) (fun z2 => ?_) (fun z2 => ?_)
  · -- a func
    have z2 : nI F.1 = nI 2 := z2
    rw [n_eq (by omega) (by omega)] at z2
    obtain ⟨hF41, h18, hp8⟩ := hcal z (by omega)
    refine Tm_ob (p_sign hS2 (s := 6) (by decide) (by decide) rfl) (fun r7 hr7 => ?_)
    obtain ⟨u, τ⟩ := r7
    obtain ⟨h3, hr7⟩ := hr7
    have h3 : τ = r2.2 := h3
    subst h3
    refine Tm_ite (fun z => ?_) (fun z => ?_)
    · rw [if_neg (by omega), if_neg (fun y => hr7.mpr y.2 z)] at hG
      exact flt (Option.some.inj hG).symm
    have hK6 := hr7.mp z
    rw [if_neg (by omega), if_pos ⟨z2, hK6⟩] at hG
    have hw4 := hw.2.2.2 (by rw [hK6]; decide)
    refine Tm_suc (fun k => by rw [xE_6]) ?_
    refine Tm_ite (c := r2.2.1 10 = 0) (fun _ => ?_) (fun z => absurd (PS_ok hS2) z)
    refine Tm_suc (fun k => by rw [xE_6]) ?_
    refine Tm_ite (c := N 2 = 1) (fun y => ?_) (fun _ => ?_)
    · rw [n2] at y
      have y : nI F.1 = nI 1 := y
      rw [n_eq (by omega) (by omega)] at y; omega
    refine Tm_suc (fun k => by rw [xE_6]) ?_
    refine Tm_ob (p_open (M := M) (P := P) (w := E.2.2.2.1) hS2 _) (fun r8 hr8 => ?_)
    rcases gO_any hG with ⟨o0, rfl⟩ | ⟨o0, hG⟩
    · rcases hr8.2 with ⟨_, hB⟩ | ⟨y, _⟩
      · exact Tm_ite (c := r8.2.1 10 = 0) (fun c => absurd c hB.1) (fun _ => b7 r8.2 _ _ hB hM (by omega) (FrM_tr hF2 hr8.1))
      · omega
    rcases hr8.2 with ⟨y, _⟩ | ⟨ho2, hS8, h13⟩
    · exact absurd y o0
    refine Tm_ite (c := r8.2.1 10 = 0) (fun _ => ?_) (fun c => absurd (PS_ok hS8) c)
    refine Tm_ob (p_take (M := M) (P := P) (w := E.2.2.2.1) hS8 _) (fun r9 hr9 => ?_)
    have hF9 := FrM_tr hF2 (FrM_tr hr8.1 hr9.1)
    rcases gT_any hG with ⟨t9, rfl⟩ | ⟨t9, hG⟩
    · rcases hr9.2 with ⟨_, hB⟩ | ⟨y, _⟩
      · exact b7 r9.2 _ _ hB hM (by omega) hF9
      · exact absurd t9 y
    rcases hr9.2 with ⟨y, _⟩ | ⟨_, hS9⟩
    · exact absurd y t9
    rw [h13]
    have k3 : upd N 5 (nI (o + 1)) 3 = nI F.2.1 := by rw [upd_other (by decide), n3]; exact h47
    have k5 : upd N 5 (nI (o + 1)) 5 = nI (o + 1) := upd_same
    generalize upd N 5 (nI (o + 1)) = N5 at k3 k5
    refine Tm_suc (fun k => by rw [xE_6]) ?_
    obtain ⟨y, hGa, hy⟩ : ∃ y, G T n f 14 E (o + 1) (tkN T n (tkN T n q)) v 0 0 0 0 b = some y ∧ (match y with | none => x = none | some r => (if tkK T n r.1 = 7 ∧ r.2.2.1 = E.2.2.2.2.2.2 F.2.1 then gT T n r.1 (fun q3 => some (some (q3, r.2.1, 0, r.2.2.2.2.1.1, bWrap r.2.2.2.2.1 8 (nI F.2.1) (hd r.2.2.2.1) (nI r.2.2.1) (nI (o + 1)), []))) else some none) = some x) := by
      rcases gb_any hG with ⟨h9, hy⟩ | ⟨t, h9, hG⟩
      · exact ⟨none, h9, hy⟩
      · exact ⟨some t, h9, hG⟩
    refine args_loop (M := M) (P := P) (d := d) f H _ _ _ _ _ _ y hGa r9.2 (upd (upd (upd N5 6 (-1)) 7 (-1)) 8 0) _ hS9 h1 hM hP (by omega) (by omega) (by omega) (by omega) (by rw [upd_other (by decide), upd_other (by decide), upd_same]; rfl) (by rw [upd_same]; rfl) (fun _ => rfl) (fun z => absurd rfl z) (fun ρ N' m3 m5 hF hm => ?_)
    have m3 : N' 3 = nI F.2.1 := by rw [m3, upd_other (by decide), upd_other (by decide), upd_other (by decide)]; exact k3
    have m5 : N' 5 = nI (o + 1) := by rw [m5, upd_other (by decide), upd_other (by decide), upd_other (by decide)]; exact k5
    have hFρ := FrM_tr hF9 hF
    cases y with
    | none =>
      have hx : x = none := hy
      subst hx
      obtain ⟨m, j1, j2, j3⟩ := hm
      exact b15 ρ m N' j1 j2 (by omega) hFρ
    | some s =>
      have hG : (if tkK T n s.1 = 7 ∧ s.2.2.1 = E.2.2.2.2.2.2 F.2.1 then gT T n s.1 (fun q3 => some (some (q3, s.2.1, 0, s.2.2.2.2.1.1, bWrap s.2.2.2.2.1 8 (nI F.2.1) (hd s.2.2.2.1) (nI s.2.2.1) (nI (o + 1)), []))) else some none) = some x := hy
      obtain ⟨hSs, m6, m8⟩ := hm
      obtain ⟨x1, x2⟩ := g_mono T n f 14 _ _ _ _ _ _ _ _ _ s hw.2.1 hv hGa M hM h1 (Or.inl rfl)
      obtain ⟨a1, a2, a3, a4, a5, a6, a7, a8⟩ := (x1 : Mo n _ _ _ s)
      have hc14 : s.2.2.1 ≤ s.1 := g_cnt T n f _ _ _ _ _ _ _ _ _ hGa hw.2.1 (Nat.zero_le _) hv (by omega)
      have hws := tkN_b T n s.1 a2
      refine Tm_suc (fun k => by rw [xE_6]) ?_
      refine Tm_ite (c := ρ.1 10 = 0) (fun _ => ?_) (fun z => absurd (PS_ok hSs) z)
      refine Tm_ob (p_sign hSs (s := 7) (by decide) (by decide) rfl) (fun ra hra => ?_)
      obtain ⟨u, τ⟩ := ra
      obtain ⟨h3, hra⟩ := hra
      have h3 : τ = ρ := h3
      subst h3
      refine Tm_ite (fun z => ?_) (fun z => ?_)
      · rw [if_neg (fun y => hra.mpr y.1 z)] at hG
        have hx : x = none := (Option.some.inj hG).symm
        subst hx
        refine Tm_ob (p_cannot (M := M) (P := P) (w := E.2.2.2.1) hSs _) (fun rc hrc => ?_)
        exact b16 rc.2 _ N' hrc.1 (by omega) (by omega) (FrM_tr hFρ hrc.2)
      have hK7 := hra.mp z
      have e18 : τ.2.2 18 F.2.1 = nI (E.2.2.2.2.2.2 F.2.1) := by rw [hFρ.2.2.1 18 (by decide)]; exact h18
      refine Tm_suc (fun k => by rw [xE_6]) ?_
      refine Tm_ite (c := τ.1 10 = 0) (fun _ => ?_) (fun z => absurd (PS_ok hSs) z)
      rw [m3]
      refine Tm_chk (n_in (by omega) (by omega)) ?_
      rw [n_cl (p := F.2.1) (by omega), e18, m8]
      refine Tm_ite (c := nI s.2.2.1 = nI (E.2.2.2.2.2.2 F.2.1)) (fun z => ?_) (fun z => ?_)
      · rw [n_eq (by omega) (by omega)] at z
        rw [if_pos ⟨hK7, z⟩] at hG
        have hws4 := hws.2.2.2 (by rw [hK7]; decide)
        refine Tm_suc (fun k => by rw [xE_6]) ?_
        refine Tm_ite (c := τ.1 10 = 0) (fun _ => ?_) (fun z => absurd (PS_ok hSs) z)
        refine Tm_ob (p_take (M := M) (P := P) (w := E.2.2.2.1) hSs _) (fun rt hrt => ?_)
        refine Tm_suc (fun k => by rw [xE_6]) ?_
        show Tm (fun k => x_GE k (d + 1) 6 19 N' (mOpn rt.2 (rt.2.1 13 - 1))) _
        refine Tm_suc (fun k => by rw [xE_6]) ?_
        rcases gT_any hG with ⟨t6, rfl⟩ | ⟨t6, hG⟩
        · rcases hrt.2 with ⟨_, hB⟩ | ⟨y, _⟩
          · refine Tm_ob (b_wrapped (M := M) (P := P) (w := E.2.2.2.1) (Bb_opn hB _) (by omega) (by omega) _) (fun r8 hr8 => ?_)
            exact Tm_some ⟨⟨_, hr8.2.1, by omega, by omega⟩, ⟨_, hr8.1, by omega, Or.inr (by omega)⟩, FrM_tr hFρ (FrM_tr hrt.1 (FrM_tr (FrM_opn _) hr8.2.2))⟩
          · exact absurd t6 y
        rcases hrt.2 with ⟨y, _⟩ | ⟨_, hSt⟩
        · exact absurd y t6
        refine Tm_ob (p_wrapped (M := M) (P := P) (w := E.2.2.2.1) (PS_clo hSt) (by omega) (by omega) _) (fun r8 hr8 => ?_)
        obtain ⟨hr81, hS8', hF8⟩ := hr8
        cases hG
        refine Tm_some ⟨?_, hr81, FrM_tr hFρ (FrM_tr hrt.1 (FrM_tr (FrM_opn _) hF8))⟩
        have w2 : (upd (upd (upd (upd (upd (fun _ => (0 : Int32)) 1 8) 2 (N' 3)) 3 (N' 6)) 4 (N' 8)) 5 (N' 5)) 2 = nI F.2.1 := by rw [upd_other (by decide), upd_other (by decide), upd_other (by decide), upd_same]; exact m3
        have w3 : (upd (upd (upd (upd (upd (fun _ => (0 : Int32)) 1 8) 2 (N' 3)) 3 (N' 6)) 4 (N' 8)) 5 (N' 5)) 3 = hd s.2.2.2.1 := by rw [upd_other (by decide), upd_other (by decide), upd_same]; exact m6
        have w4 : (upd (upd (upd (upd (upd (fun _ => (0 : Int32)) 1 8) 2 (N' 3)) 3 (N' 6)) 4 (N' 8)) 5 (N' 5)) 4 = nI s.2.2.1 := by rw [upd_other (by decide), upd_same]; exact m8
        have w5 : (upd (upd (upd (upd (upd (fun _ => (0 : Int32)) 1 8) 2 (N' 3)) 3 (N' 6)) 4 (N' 8)) 5 (N' 5)) 5 = nI (o + 1) := by rw [upd_same]; exact m5
        rw [w2, w3, w4, w5] at hS8'
        exact hS8'
      · rw [n_eq (by omega) (by omega)] at z
        rw [if_neg (fun y => z y.2)] at hG
        have hx : x = none := (Option.some.inj hG).symm
        subst hx
        refine Tm_ob (p_fault (M := M) (P := P) (w := E.2.2.2.1) hSs _) (fun rc hrc => ?_)
        exact b17 rc.2 _ N' hrc.1 (by omega) (by omega) (FrM_tr hFρ hrc.2)
  · -- a variable
    have z2 : ¬ nI F.1 = nI 2 := z2
    rw [n_eq (by omega) (by omega)] at z2
    have hF1' : F.1 = 1 := by omega
    rw [if_pos hF1'] at hG
    cases hG
    refine Tm_suc (fun k => by rw [xE_6]) ?_
    refine Tm_ite (c := r2.2.1 10 = 0) (fun _ => ?_) (fun z => absurd (PS_ok hS2) z)
    refine Tm_suc (fun k => by rw [xE_6]) ?_
    refine Tm_ite (c := N 2 = 1) (fun _ => ?_) (fun y => absurd (by rw [n2, hF1']; rfl) y)
    have last : ∀ N' : Nat → Int32, N' 101 = 7 → N' 100 = F.2.2 → N' 3 = nI F.2.1 → Tm (fun k => x_GE k (d + 1) 6 5 N' r2.2) (Po T n E o M P (b.1 + (n + 1 - q) + 3 * (d + 2)) σ (some (tkN T n q, v, 1, b.1, bNode b 7 F.2.2 (nI F.2.1) 0, []))) := fun N' j1 j2 j3 => by
      refine Tm_suc (fun k => by rw [xE_6]) ?_
      refine Tm_ob (p_node (M := M) (P := P) (w := E.2.2.2.1) hS2 (by omega) hM _) (fun r8 hr8 => ?_)
      obtain ⟨hr81, hS8, hF8⟩ := hr8
      refine Tm_some ⟨?_, hr81, FrM_tr hF2 hF8⟩
      have w1 : (upd (upd (upd (upd (fun _ => (0 : Int32)) 1 (N' 101)) 2 (N' 100)) 3 (N' 3)) 4 0) 1 = 7 := by rw [upd_other (by decide), upd_other (by decide), upd_other (by decide), upd_same]; exact j1
      have w2 : (upd (upd (upd (upd (fun _ => (0 : Int32)) 1 (N' 101)) 2 (N' 100)) 3 (N' 3)) 4 0) 2 = F.2.2 := by rw [upd_other (by decide), upd_other (by decide), upd_same]; exact j2
      have w3 : (upd (upd (upd (upd (fun _ => (0 : Int32)) 1 (N' 101)) 2 (N' 100)) 3 (N' 3)) 4 0) 3 = nI F.2.1 := by rw [upd_other (by decide), upd_same]; exact j3
      rw [w1, w2, w3] at hS8
      exact hS8
    refine Tm_ite (c := N 4 = 0) (fun y => ?_) (fun y => ?_)
    · rw [n4, h48] at y
      refine Tm_suc (fun k => by rw [xE_6]) ?_
      refine last _ (by rw [upd_same, upd_same]) (by rw [upd_other (by decide), upd_same, y]) ?_
      rw [upd_other (by decide), upd_other (by decide), upd_other (by decide), n3]; exact h47
    · rw [n4, h48] at y
      have y1 : F.2.2 = 1 := hloc.resolve_left y
      refine last _ upd_same (by rw [upd_other (by decide), upd_same, y1]) ?_
      rw [upd_other (by decide), upd_other (by decide), n3]; exact h47
end CALLS
