/-! Statements: the grammar always answers. -/
theorem hb_t {x : SR} {k : ST → SR} (h : ∃ y, x = some y) (hk : ∀ r, x = some (some r) → ∃ y, k r = some y) : ∃ y, hb x k = some y := by
  obtain ⟨y, rfl⟩ := h
  cases y with
  | none => exact ⟨_, rfl⟩
  | some r => exact hk r rfl
theorem lb_t {x : RG} {k : RT → SR} (h : ∃ y, x = some y) (hk : ∀ r, x = some (some r) → ∃ y, k r = some y) : ∃ y, lb x k = some y := by
  obtain ⟨y, rfl⟩ := h
  cases y with
  | none => exact ⟨_, rfl⟩
  | some r => exact hk r rfl
theorem hT_t {T : Nat → Int32} {n q : Nat} {k : Nat → SR} (hk : ∃ y, k (tkN T n q) = some y) : ∃ y, hT T n q k = some y := by
  unfold hT
  by_cases c : tkK T n (tkN T n q) = 0
  · rw [if_pos c]; exact ⟨_, rfl⟩
  · rw [if_neg c]; exact hk
theorem hW_t {T : Nat → Int32} {n t q : Nat} {k : Nat → SR} (hk : tkK T n q = t → ∃ y, k (tkN T n q) = some y) : ∃ y, hW T n t q k = some y := by
  unfold hW
  by_cases c : tkK T n q = t
  · rw [if_pos c]; exact hT_t (hk c)
  · rw [if_neg c]; exact ⟨_, rfl⟩
section STO
variable {T : Nat → Int32} {n : Nat} {E : En} {o q v f : Nat} {b : BT} {MD : Nat → Nat → Nat}
theorem exp_t (hq : q ≤ n) (hv : v ≤ 60) (hb : 1 ≤ b.1) (hf : 30 * (n - q) + 21 ≤ f) : ∃ y, G T n f 0 E o q v 0 0 0 0 b = some y := g_tot T n f 0 E o q v 0 0 0 0 b (by decide) hq hv hb trivial (by simp only [lvG]; omega)
theorem e13_t {a c z : Int32} (hq : q ≤ n) (hv : v ≤ 60) (hb : 1 ≤ b.1) (hf : 30 * (n - q) + 21 ≤ f) : ∃ y, gE13 T n f E o q v b a c z = some y := gb_t (exp_t hq hv hb hf) (fun s _ => gW_t (fun _ => ⟨_, rfl⟩))
theorem cl_t {md : Nat → Nat} {np p : Nat} {tg : Int32} (hq : q ≤ n) (hv : v ≤ 60) (hb : 1 ≤ b.1) (hf : 30 * (n - q) + 23 ≤ f) : ∃ y, gCl T n f md np p tg E o q v b = some y := by
  have hu := tkN_b T n q hq
  have hu1 := tkN_b T n _ hu.2.1
  unfold gCl
  refine gT_t ?_
  by_cases c : tkK T n (tkN T n q) = 6
  · rw [if_pos c]
    refine gO_t (gT_t (gb_t (ga_tot f _ _ _ _ _ _ _ hu1.2.1 hv hb (by omega)) (fun s _ => ?_)))
    by_cases c2 : tkK T n s.1 = 7 ∧ s.2.2.1 = np
    · rw [if_pos c2]; exact gT_t (gW_t (fun _ => ⟨_, rfl⟩))
    · rw [if_neg c2]; exact ⟨_, rfl⟩
  · rw [if_neg c]; exact ⟨_, rfl⟩
theorem as_t {i e : Nat} (hq : q ≤ n) (hv : v ≤ 60) (hb : 1 ≤ b.1) (hf : 30 * (n - q) + 23 ≤ f) : ∃ y, gAs T n f MD E o i e q v b = some y := by
  unfold gAs
  by_cases c : tkK T n q = 63
  · rw [if_pos c]
    by_cases c2 : i = 1
    · rw [if_pos c2]; exact gT_t (gW_t (fun _ => ⟨_, rfl⟩))
    · rw [if_neg c2]; exact ⟨_, rfl⟩
  rw [if_neg c]
  by_cases c3 : tkK T n q = 26 ∧ (fd E (tkS T n q)).1 = 3
  · rw [if_pos c3]; exact cl_t hq hv hb hf
  · rw [if_neg c3]; exact e13_t hq hv hb (by omega)
theorem bh_t {i e : Nat} (hq : q ≤ n) (hv : v ≤ 60) (hb : 1 ≤ b.1) (hf : 30 * (n - q) + 23 ≤ f) : ∃ y, gBh T n f MD E o i e q v b = some y := by
  have hu := tkN_b T n q hq
  have hu1 := tkN_b T n _ hu.2.1
  unfold gBh
  by_cases c : tkK T n q = 2 ∨ tkK T n q = 3 ∨ tkK T n q = 4
  · rw [if_pos c]; exact gT_t (gW_t (fun _ => e13_t hu1.2.1 hv hb (by omega)))
  rw [if_neg c]
  by_cases c2 : tkK T n q = 57 ∨ tkK T n q = 58 ∨ tkK T n q = 59
  · rw [if_pos c2]; exact gT_t (gb_t (gTg_tot E o _ v b hu.2.1 hv hb (by omega)) (fun s _ => gW_t (fun _ => ⟨_, rfl⟩)))
  · rw [if_neg c2]; exact gW_t (fun _ => as_t hu.2.1 hv hb (by omega))
theorem bg_t (hq : q ≤ n) (hv : v ≤ 60) (hb : 1 ≤ b.1) (hf : 30 * (n - q) + 23 ≤ f) : ∃ y, gBg T n f MD E o q v b = some y := by
  unfold gBg
  by_cases c : (fd E (tkS T n q)).1 = 3
  · rw [if_pos c]; exact cl_t hq hv hb hf
  rw [if_neg c]
  refine gb_t (gTg_tot E o q v b hq hv hb (by omega)) (fun s h7 => ?_)
  obtain ⟨⟨a1, a2, a3, a4, a5, a6, a7, a8⟩, a9, a10, a11⟩ := gTg_mo (M := b.1) hq hv (Nat.le_refl _) hb h7
  exact bh_t a2 (by omega) (by omega) (by omega)
theorem pa_t (hq : q ≤ n) (hv : v ≤ 60) (hb : 1 ≤ b.1) (hf : 30 * (n - q) + 23 ≤ f) : ∃ y, gPa T n f E o q v b = some y := by
  have hu := tkN_b T n q hq
  unfold gPa
  refine gO_t (gT_t (gb_t (gpt_tot f _ _ _ _ _ _ hu.2.1 hv hb (by omega)) (fun s h7 => ?_)))
  obtain ⟨⟨a1, a2, a3, a4, a5, a6, a7, a8⟩, a9, a10⟩ := gpt_mo f _ _ _ _ _ _ s b.1 hu.2.1 hv h7 (Nat.le_refl _) hb (fun z => absurd rfl z)
  have hus := tkN_b T n s.1 a2
  have hu2 := tkN_b T n _ hus.2.1
  exact gW_t (fun _ => gW_t (fun _ => gb_t (exp_t hu2.2.1 (by omega) (by omega) (by omega)) (fun _ _ => gW_t (fun _ => ⟨_, rfl⟩))))
theorem sm_t {lp : Nat} (hq : q ≤ n) (hv : v ≤ 60) (hb : 1 ≤ b.1) (hf : 30 * (n - q) + 23 ≤ f) : ∃ y, gSm T n f lp E o q v b = some y := by
  have hu := tkN_b T n q hq
  unfold gSm
  by_cases c : ((tkK T n q = 49 ∨ tkK T n q = 50) ∧ lp = 0) ∨ (tkK T n q = 51 ∧ (E.2.2.2.1 = 0 ∨ 41 < E.2.2.2.1))
  · rw [if_pos c]; exact ⟨_, rfl⟩
  rw [if_neg c]
  refine gT_t ?_
  unfold gSm0
  generalize tkK T n q - 32 = w
  generalize tkN T n q = q1 at hu
  by_cases c1 : w = 19
  · rw [if_pos c1]
    by_cases c2 : tkK T n q1 = 13
    · rw [if_pos c2]; exact gW_t (fun _ => ⟨_, rfl⟩)
    · rw [if_neg c2]; exact gb_t (exp_t hu.2.1 hv hb (by omega)) (fun _ _ => gW_t (fun _ => ⟨_, rfl⟩))
  rw [if_neg c1]
  by_cases c2 : w = 20
  · rw [if_pos c2]
    by_cases c3 : tkK T n q1 = 6
    · rw [if_pos c3]
      have hu1 := tkN_b T n q1 hu.2.1
      refine gO_t (gT_t (gb_t (exp_t hu1.2.1 hv hb (by omega)) (fun s h7 => ?_)))
      obtain ⟨⟨a1, a2, a3, a4, a5, a6, a7, a8⟩, a9⟩ := mo_of (M := b.1) hu1.2.1 hv h7 (Nat.le_refl _) hb trivial (fun h => h) (fun h => h)
      exact gb_t (gpr_tot f _ _ _ _ _ a2 (by omega) (by omega) (by omega)) (fun _ _ => gW_t (fun _ => gW_t (fun _ => ⟨_, rfl⟩)))
    · rw [if_neg c3]; exact ⟨_, rfl⟩
  rw [if_neg c2]
  by_cases c3 : w = 21
  · rw [if_pos c3]; exact gb_t (exp_t hu.2.1 hv hb (by omega)) (fun _ _ => gW_t (fun _ => ⟨_, rfl⟩))
  · rw [if_neg c3]; exact gW_t (fun _ => ⟨_, rfl⟩)
end STO
def lvZ : Nat → Nat
  | 0 => 30
  | 1 => 29
  | 3 => 27
  | _ => 28
theorem hE_t {T : Nat → Int32} {n q : Nat} {k : Nat → SR} (hk : ∀ q, ∃ y, k q = some y) : ∃ y, hE T n q k = some y := hW_t (fun _ => hW_t (fun _ => hk _))
theorem gs_tot {T : Nat → Int32} {n : Nat} {MD : Nat → Nat → Nat} : ∀ (f nt : Nat) (E : En) (lp o q v : Nat) (pe : Int32) (i l : Nat) (b : BT) (s : SB), nt ≤ 5 → q ≤ n → v ≤ 60 → s.1 ≤ 400 → 1 ≤ b.1 → (2 ≤ nt → ¬ nt = 3 → ¬ tkK T n q = 25) → 40 * (n - q) + lvZ nt + 1 ≤ f → ∃ y, GS T n MD f nt E lp o q v pe i l b s = some y
  | 0, nt, E, lp, o, q, v, pe, i, l, b, s, _, _, _, _, _, _, hf => absurd hf (by omega)
  | f + 1, nt, E, lp, o, q, v, pe, i, l, b, s, hnt, hq, hv, hs, hb, hK, hf => by
    have ih := gs_tot (T := T) (n := n) (MD := MD) f
    have mo := gs_mo (T := T) (n := n) (MD := MD) f
    have hu := tkN_b T n q hq
    match nt, hnt with
    | 0, _ =>
      simp only [GS]
      simp only [lvZ] at hf
      by_cases c : isBE (tkK T n q)
      · rw [if_pos c]; exact ⟨_, rfl⟩
      rw [if_neg c]
      refine hb_t (ih _ _ _ _ _ _ _ _ _ _ _ (by decide) hq hv hs hb (fun z => absurd z (by decide)) (by simp only [lvZ]; omega)) (fun t h7 => ?_)
      obtain ⟨⟨a1, a2, a3, a4, a5, a6, a7, a8, a9, a10⟩, d1, d2, d3⟩ := mo _ _ _ _ _ _ _ _ _ _ _ t b.1 (by decide) hq hv hs h7 hb (Nat.le_refl _) (fun z => absurd z (by decide)) (fun z => absurd z (by decide))
      have d2 := (d2 (by decide)).2
      exact ih _ _ _ _ _ _ _ _ _ _ _ (by decide) a2 a4 a10 (by rw [bLnk_1]; omega) (fun z => absurd z (by decide)) (by simp only [lvZ]; omega)
    | 1, _ =>
      simp only [GS]
      simp only [lvZ] at hf
      by_cases c : ¬ isSt (tkK T n q) ∨ (isOp (tkK T n q) ∧ o = 20) ∨ s.1 = 400
      · rw [if_pos c]; exact ⟨_, rfl⟩
      rw [if_neg c]
      have hs4 : ¬ s.1 = 400 := fun z => c (Or.inr (Or.inr z))
      refine hb_t ?_ (fun t _ => ⟨_, rfl⟩)
      have grp : ∀ nt : Nat, (nt = 2 ∨ nt = 4 ∨ nt = 5) → ¬ tkK T n q = 25 → ∃ y, GS T n MD f nt E lp o q v 0 0 0 b (sMo s) = some y := fun nt hnt hk =>
        ih _ _ _ _ _ _ _ _ _ _ _ (by omega) hq hv (by show s.1 + 1 ≤ 400; omega) hb (fun _ _ => hk) (by rcases hnt with rfl | rfl | rfl <;> simp only [lvZ] <;> omega)
      by_cases c1 : tkK T n q = 26
      · rw [if_pos c1]; exact lb_t (bg_t hq hv hb (by omega)) (fun _ _ => ⟨_, rfl⟩)
      rw [if_neg c1]
      by_cases c2 : tkK T n q = 10
      · rw [if_pos c2]; exact lb_t (pa_t hq hv hb (by omega)) (fun _ _ => ⟨_, rfl⟩)
      rw [if_neg c2]
      by_cases c3 : tkK T n q = 39
      · rw [if_pos c3]; exact grp 2 (by decide) (by omega)
      rw [if_neg c3]
      by_cases c4 : tkK T n q = 43
      · rw [if_pos c4]; exact grp 4 (by decide) (by omega)
      rw [if_neg c4]
      by_cases c5 : tkK T n q = 45
      · rw [if_pos c5]; exact grp 5 (by decide) (by omega)
      rw [if_neg c5]
      exact lb_t (sm_t hq hv hb (by omega)) (fun _ _ => ⟨_, rfl⟩)
    | 2, _ =>
      simp only [GS]
      simp only [lvZ] at hf
      have hu4 := hu.2.2.2 (hK (by decide) (by decide))
      refine hT_t ?_
      generalize tkN T n q = q1 at hu hu4
      refine hb_t (ih _ _ _ _ _ _ _ _ _ _ _ (by decide) hu.2.1 hv hs (by rw [bNode_1]; omega) (fun _ z => absurd rfl z) (by simp only [lvZ]; omega)) (fun t h7 => ?_)
      obtain ⟨⟨a1, a2, a3, a4, a5, a6, a7, a8, a9, a10⟩, d1, d2, d3⟩ := mo _ _ _ _ _ _ _ _ _ _ _ t b.1 (by decide) hu.2.1 hv hs h7 hb (by rw [bNode_1]; omega) (fun z => absurd z (by decide)) (fun _ z => absurd rfl z)
      rw [bNode_1] at a5
      refine hb_t ?_ (fun x _ => hE_t (fun _ => ⟨_, rfl⟩))
      by_cases c : tkK T n t.1 = 42
      · rw [if_pos c]
        have hut := tkN_b T n t.1 a2
        exact hT_t (hb_t (ih _ _ _ _ _ _ _ _ _ _ _ (by decide) hut.2.1 a4 a10 (by omega) (fun z => absurd z (by decide)) (by simp only [lvZ]; omega)) (fun _ _ => ⟨_, rfl⟩))
      · rw [if_neg c]; exact ⟨_, rfl⟩
    | 3, _ =>
      simp only [GS]
      simp only [lvZ] at hf
      refine hb_t ?_ (fun c h7 => ?_)
      · by_cases k : l = 0 ∧ tkK T n q = 63
        · rw [if_pos k]; exact hT_t ⟨_, rfl⟩
        · rw [if_neg k]; exact lb_t (exp_t hq hv hb (by omega)) (fun _ _ => ⟨_, rfl⟩)
      have key : MoZ n b s q v c := by
        by_cases k : l = 0 ∧ tkK T n q = 63
        · rw [if_pos k] at h7
          obtain ⟨_, h7⟩ := hT_s h7
          cases h7
          unfold MoZ; dsimp only; omega
        · rw [if_neg k] at h7
          obtain ⟨u, h8, h7⟩ := lb_s h7
          obtain ⟨⟨a1, a2, a3, a4, a5, a6, a7, a8⟩, a9⟩ := mo_of (M := b.1) hq hv h8 (Nat.le_refl _) hb trivial (fun h => h) (fun h => h)
          cases h7
          unfold MoZ; dsimp only; omega
      obtain ⟨a1, a2, a3, a4, a5, a6, a7, a8, a9, a10⟩ := key
      refine hW_t (fun k40 => ?_)
      have huc := tkN_b T n c.1 a2
      have huc4 := huc.2.2.2 (by rw [k40]; decide)
      refine hb_t (ih _ _ _ _ _ _ _ _ _ _ _ (by decide) huc.2.1 a4 hs (by omega) (fun z => absurd z (by decide)) (by simp only [lvZ]; omega)) (fun t h9 => ?_)
      obtain ⟨⟨b1, b2, b3, b4, b5, b6, b7, b8, b9, b10⟩, _⟩ := mo _ _ _ _ _ _ _ _ _ _ _ t b.1 (by decide) huc.2.1 a4 hs h9 hb (by omega) (fun _ z => absurd rfl z) (fun z => absurd z (by decide))
      by_cases k41 : tkK T n t.1 = 41
      · rw [if_pos k41]
        have hut := tkN_b T n t.1 b2
        refine hT_t (ih _ _ _ _ _ _ _ _ _ _ _ (by decide) hut.2.1 b4 b10 ?_ (fun _ z => absurd rfl z) (by simp only [lvZ]; omega))
        by_cases l0 : l = 0
        · rw [if_pos l0]; show 1 ≤ t.2.2.2.2.1.1 + 1; omega
        · rw [if_neg l0]; show 1 ≤ t.2.2.2.2.1.1 + 1; omega
      · rw [if_neg k41]; exact ⟨_, rfl⟩
    | 4, _ =>
      simp only [GS]
      simp only [lvZ] at hf
      have hu4 := hu.2.2.2 (hK (by decide) (by decide))
      refine hT_t ?_
      generalize tkN T n q = q1 at hu hu4
      refine lb_t (exp_t hu.2.1 hv (by rw [bNode_1]; omega) (by omega)) (fun t h7 => ?_)
      obtain ⟨⟨a1, a2, a3, a4, a5, a6, a7, a8⟩, a9⟩ := mo_of (M := b.1) hu.2.1 hv h7 (by rw [bNode_1]; omega) hb trivial (fun h => h) (fun h => h)
      rw [bNode_1] at a5
      refine hW_t (fun _ => ?_)
      have hut := tkN_b T n t.1 a2
      exact hb_t (ih _ _ _ _ _ _ _ _ _ _ _ (by decide) hut.2.1 (by omega) hs (by rw [bSet_1]; omega) (fun z => absurd z (by decide)) (by simp only [lvZ]; omega)) (fun _ _ => hE_t (fun _ => ⟨_, rfl⟩))
    | 5, _ =>
      simp only [GS]
      simp only [lvZ] at hf
      have hu4 := hu.2.2.2 (hK (by decide) (by decide))
      refine hT_t ?_
      generalize tkN T n q = q1 at hu hu4
      refine lb_t (g_tot T n f 17 E (o + 1) q1 v 0 0 E.2.2.1.length 1 _ (by decide) hu.2.1 hv (by rw [bNode_1]; omega) (Or.inl rfl) (by simp only [lvG]; omega)) (fun t h7 => ?_)
      obtain ⟨x1, a9⟩ := g_mono T n f 17 _ _ _ _ _ _ _ _ _ t hu.2.1 hv h7 b.1 (by rw [bNode_1]; omega) hb (Or.inl rfl)
      have x1 : Mo n (bNode b 48 0 (-1) 0) q1 v t := x1
      obtain ⟨a1, a2, a3, a4, a5, a6, a7, a8⟩ := x1
      rw [bNode_1] at a5
      have hut := tkN_b T n t.1 a2
      refine hb_t ?_ (fun c h8 => ?_)
      · by_cases k : tkK T n t.1 = 15
        · rw [if_pos k]; exact hT_t (lb_t (exp_t hut.2.1 (by omega) (by rw [bSet_1]; omega) (by omega)) (fun _ _ => ⟨_, rfl⟩))
        · rw [if_neg k]; exact ⟨_, rfl⟩
      have key : t.1 ≤ c.1 ∧ c.1 ≤ n ∧ c.2.1 ≤ 60 ∧ 1 ≤ c.2.2.2.2.1.1 := by
        by_cases k : tkK T n t.1 = 15
        · rw [if_pos k] at h8
          obtain ⟨_, h8⟩ := hT_s h8
          obtain ⟨y, h9, h8⟩ := lb_s h8
          obtain ⟨⟨b1, b2, b3, b4, b5, b6, b7, b8⟩, _⟩ := mo_of (M := b.1) hut.2.1 (by omega) h9 (by rw [bSet_1]; omega) hb trivial (fun h => h) (fun h => h)
          rw [bSet_1] at b5
          cases h8
          dsimp only; rw [bSet_1]; omega
        · rw [if_neg k] at h8; cases h8
          dsimp only; rw [bSet_1]; omega
      obtain ⟨c1, c2, c3, c4⟩ := key
      refine hW_t (fun _ => ?_)
      have huc := tkN_b T n c.1 c2
      exact hb_t (ih _ _ _ _ _ _ _ _ _ _ _ (by decide) huc.2.1 c3 hs c4 (fun z => absurd z (by decide)) (by simp only [lvZ]; omega)) (fun _ _ => hE_t (fun _ => ⟨_, rfl⟩))
