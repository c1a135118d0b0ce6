/-! The reference reads a program. -/
def g0 (T : Nat → Int32) (n : Nat) (u p : Nat → Int32) : PRG := (sk T n 0, ([], [], [], 0, true, true, fun _ => 0), fun _ _ => 0, 0, 0, 0, (1, 0, fun _ _ => 0, fun _ => 0, fun _ => 0), (0, u, p), fun _ => 0)
theorem g0_PL (T : Nat → Int32) (n : Nat) (u p : Nat → Int32) : PL n (g0 T n u p) := by
  have h : sk T n 0 ≤ n := skE_le T n (n + 1) 0 (Nat.zero_le _)
  refine ⟨h, Nat.le_refl _, ?_, ?_, Nat.zero_le _, Nat.zero_le _, rfl⟩
  · show 1 ≤ 1 + sk T n 0; omega
  · show 0 ≤ sk T n 0; omega
theorem gPrg_tot (T : Nat → Int32) (n : Nat) (u p : Nat → Int32) : ∃ x, gPrg T n (g0 T n u p) = some x := by
  unfold gPrg
  by_cases c : tkK T n (sk T n 0) = 0
  · rw [if_pos c]; exact ⟨_, rfl⟩
  · rw [if_neg c]
    refine pb_t (gds_tot _ _ (g0_PL T n u p) (by have : (g0 T n u p).1 = sk T n 0 := rfl; omega)) (fun g hg => ?_)
    obtain ⟨p1, p2, p3, p4, p5, p6, p7⟩ := gds_mo _ _ _ hg (g0_PL T n u p)
    refine pb_t (gs_tot _ 0 _ _ _ _ _ _ _ _ _ _ (by decide) p1 p5 p6 p2 (fun z => absurd z (by decide)) (by show 40 * (n - g.1) + 30 + 1 ≤ fu n; unfold fu; omega)) (fun t _ => ?_)
    by_cases e : tkK T n t.1 = 25
    · rw [if_pos e]; exact ⟨_, rfl⟩
    · rw [if_neg e]; exact ⟨_, rfl⟩
/-- a program is read -/
def PR (T : Nat → Int32) (n : Nat) (g : PRG) (t : ST) (σ : MS) : Prop :=
  PZ T n g.2.2.1 g.2.1 0 0 t.1 t.2.1 t.2.2.2.2.1 t.2.2.2.2.2 σ ∧ σ.1 110 = hd t.2.2.2.1 ∧ (σ.1 30 = nI g.2.2.2.1 ∧ g.2.2.2.1 ≤ 40 ∧ σ.1 31 = nI g.2.2.2.2.1 ∧ g.2.2.2.2.1 ≤ g.2.2.2.1) ∧ (g.2.1.2.1 = [] ∧ g.2.1.2.2.1 = [] ∧ g.2.1.2.2.2.1 = 0) ∧ (∀ x ∈ g.2.1.1, ¬ x.2.2.1 = 1 → x.2.2.2 < g.2.2.2.1) ∧ (∀ i, i < g.2.2.2.1 → σ.2.2 17 i = g.2.2.2.2.2.2.2.2 i ∧ UnO σ g.2.2.2.2.2.2.2.2 i ∧ MoO σ g.2.1 g.2.2.1 i) ∧ PA σ
def PoR (T : Nat → Int32) (n : Nat) (σ0 : MS) : Option (PRG × ST) → Int32 × MS → Prop
  | none, r => (∃ m, Bb m r.2) ∧ FrP σ0 r.2
  | some z, r => PR T n z.1 z.2 r.2 ∧ FrP σ0 r.2
section RPR
variable {T : Nat → Int32} {n : Nat}
theorem rp_b14 {σ ρ : MS} {N : Nat → Int32} {m : Nat} (hB : Bb m ρ) (hF : FrP σ ρ) : Tm (fun k => x_readProgram k 14 N ρ) (PoR T n σ none) := by
  refine Tm_suc (fun k => by rw [x_readProgram]) ?_
  refine Tm_ob (show Tm (fun k => x_block k 0 (upd (fun _ => 0) 1 (-1)) ρ) (fun r => r.2 = ρ) from b_block hB.1) (fun r hr => ?_)
  rw [hr]
  have hB2 : Bb m (upd ρ.1 110 r.1, ρ.2.1, ρ.2.2) := ⟨by show ¬ upd ρ.1 110 r.1 10 = 0; rw [upd_other (by decide)]; exact hB.1, by show upd ρ.1 110 r.1 22 = _; rw [upd_other (by decide)]; exact hB.2⟩
  refine Tm_suc (fun k => by rw [x_readProgram]) ?_
  refine Tm_ite (fun z => absurd z hB2.1) (fun _ => ?_)
  refine Tm_suc (fun k => by rw [x_readProgram]) ?_
  exact Tm_some ⟨⟨_, hB2⟩, FrP_tr hF (FrP_s (fun j hj => upd_other (by omega)))⟩
theorem rp_b11 {σ ρ : MS} {N : Nat → Int32} {m : Nat} (hB : Bb m ρ) (hF : FrP σ ρ) : Tm (fun k => x_readProgram k 11 N ρ) (PoR T n σ none) := by
  refine Tm_suc (fun k => by rw [x_readProgram]) ?_
  exact Tm_ite (fun z => absurd z hB.1) (fun _ => rp_b14 hB hF)
/-- the statements -/
theorem rp_14 {σ ρ : MS} {N : Nat → Int32} {g : PRG} {x : Option (PRG × ST)} (hG : pb (GS T n g.2.2.1 (fu n) 0 g.2.1 0 0 g.1 g.2.2.2.2.2.1 (-1) 0 0 g.2.2.2.2.2.2.1 g.2.2.2.2.2.2.2.1) (fun t => if tkK T n t.1 = 25 then some (some (g, t)) else some none) = some x) (hD : PD T n g ρ) (hP : PL n g) (hF : FrP σ ρ) : Tm (fun k => x_readProgram k 14 N ρ) (PoR T n σ x) := by
  obtain ⟨h, hZ, h30, hE, hl, hk, h17, hA⟩ := hD
  obtain ⟨p1, p2, p3, p4, p5, p6, p7⟩ := hP
  have hq := PS_q h
  have HB : SB0 T n g.2.2.1 (fu n) := sb_of (all_Z (fu n) (fu n) (Nat.le_refl _)).1
  refine Tm_suc (fun k => by rw [x_readProgram]) ?_
  rcases pb_any hG with ⟨hg, rfl⟩ | ⟨t, hg, hG⟩
  · refine Tm_ob (HB _ _ _ _ _ _ _ _ _ hg ρ _ 100 1 0 (ZZ_PZ hZ h) (by decide) p2 (Nat.zero_le _) (by omega) (by omega) (by decide) upd_same) (fun r hr => ?_)
    obtain ⟨⟨m, hB, _⟩, hF3⟩ := hr
    have hB2 : Bb m (upd r.2.1 110 r.1, r.2.2.1, r.2.2.2) := ⟨by show ¬ upd r.2.1 110 r.1 10 = 0; rw [upd_other (by decide)]; exact hB.1, by show upd r.2.1 110 r.1 22 = _; rw [upd_other (by decide)]; exact hB.2⟩
    refine Tm_suc (fun k => by rw [x_readProgram]) ?_
    refine Tm_ite (fun z => absurd z hB2.1) (fun _ => ?_)
    refine Tm_suc (fun k => by rw [x_readProgram]) ?_
    exact Tm_some ⟨⟨_, hB2⟩, FrP_tr hF (FrP_tr (FrP_Z hF3) (FrP_s (fun j hj => upd_other (by omega))))⟩
  · refine Tm_ob (HB _ _ _ _ _ _ _ _ _ hg ρ _ 100 1 0 (ZZ_PZ hZ h) (by decide) p2 (Nat.zero_le _) (by omega) (by omega) (by decide) upd_same) (fun r hr => ?_)
    obtain ⟨hZ3, he3, hF3⟩ := hr
    have hFr : FrP σ (upd r.2.1 110 r.1, r.2.2.1, r.2.2.2) := FrP_tr hF (FrP_tr (FrP_Z hF3) (FrP_s (fun j hj => upd_other (by omega))))
    have hS4 : PS T n g.2.1 0 t.1 t.2.1 t.2.2.2.2.1 (upd r.2.1 110 r.1, r.2.2.1, r.2.2.2) := PS_sc hZ3.1 (fun j hj => upd_other (by omega))
    have c := cur_kind (PS_cur hS4)
    refine Tm_suc (fun k => by rw [x_readProgram]) ?_
    refine Tm_ite (fun _ => ?_) (fun z => absurd (PS_ok hS4) z)
    refine Tm_ite (fun z => ?_) (fun z => ?_)
    · rw [if_pos (c.1.mp z)] at hG
      obtain rfl := Option.some.inj hG
      refine Tm_suc (fun k => by rw [x_readProgram]) ?_
      have u : ∀ j, j ≠ 110 → ((upd r.2.1 110 r.1, r.2.2.1, r.2.2.2) : MS).1 j = r.2.1 j := fun j hj => upd_other hj
      refine Tm_some ⟨⟨⟨hS4, ?_, ?_, ?_, ?_⟩, ?_, ⟨?_, ?_, ?_, ?_⟩, hE, hk, ?_, ?_⟩, hFr⟩
      · exact hZ3.2.1
      · rw [u 45 (by decide)]; exact hZ3.2.2.1
      · rw [u 44 (by decide)]; exact hZ3.2.2.2.1
      · exact hZ3.2.2.2.2
      · show upd r.2.1 110 r.1 110 = _
        rw [upd_same]; exact he3
      · rw [u 30 (by decide), hF3.1 30 (by decide)]; exact h30.1
      · exact h30.2.1
      · rw [u 31 (by decide), hF3.1 31 (by decide)]; exact h30.2.2.1
      · exact h30.2.2.2
      · intro i hi
        have w0 : g.2.1.2.2.2.1 = 0 := p7
        rw [w0] at hF3
        refine ⟨?_, UnO_fr (h17 i hi).2.1 ?_ (fun s hs => ?_) rfl (fun _ _ => rfl), MoO_fr (h17 i hi).2.2 (fun j _ => by show r.2.2.2 19 _ = _; rw [hF3.2.2.1 19 (by decide)]) rfl rfl⟩
        · show r.2.2.2 17 i = _
          rw [hF3.2.2.1 17 (by decide)]; exact (h17 i hi).1
        · exact hF3.2.2.2.2.2.1 _ (by omega)
        · exact hF3.2.2.2.2.2.2 _ (by omega)
      · exact (FrP_Z hF3).2.2.2 hA
    · rw [if_neg (fun w => z (c.1.mpr w))] at hG
      obtain rfl := Option.some.inj hG
      refine Tm_ob (s_cannot _ _) (fun r4 hr4 => ?_)
      subst hr4
      have hB := flt_b (M := 0) (P := 0) (w := 0) (PS_ok hS4) (PS_m hS4) 2 (upd r.2.1 110 r.1 8)
      refine Tm_suc (fun k => by rw [x_readProgram]) ?_
      exact Tm_some ⟨⟨_, hB.1⟩, FrP_tr hFr (FrP_V (w := 0) (FrV_flt _ _))⟩
abbrev gRest (T : Nat → Int32) (n : Nat) (g : PRG) : Option (Option (PRG × ST)) := pb (GS T n g.2.2.1 (fu n) 0 g.2.1 0 0 g.1 g.2.2.2.2.2.1 (-1) 0 0 g.2.2.2.2.2.2.1 g.2.2.2.2.2.2.2.1) (fun t => if tkK T n t.1 = 25 then some (some (g, t)) else some none)
theorem rp_11 {σ : MS} {x : Option (PRG × ST)} : ∀ (f : Nat) (g : PRG) (y : Option PRG), GDs T n f g = some y → (y = none → x = none) → (∀ g', y = some g' → gRest T n g' = some x) → ∀ (ρ : MS) (N : Nat → Int32), PD T n g ρ → PL n g → FrP σ ρ → Tm (fun k => x_readProgram k 11 N ρ) (PoR T n σ x)
  | 0, g, y, hG, _, _, _, _, _, _, _ => by cases hG
  | f + 1, g, y, hG, K1, K2, ρ, N, hD, hP, hF => by
    have ih := rp_11 (σ := σ) (x := x) f
    have hD0 := hD
    have hP0 := hP
    obtain ⟨h, hZ, h30, hE, hl, hk, h17, hA⟩ := hD
    obtain ⟨p1, p2, p3, p4, p5, p6, p7⟩ := hP
    have hq := PS_q h
    have hN := tkN_b T n g.1 p1
    rw [GDs] at hG
    -- var
    have l32 : tkK T n g.1 = 32 → Tm (fun k => x_readProgram k 12 N ρ) (PoR T n σ x) := fun c1 => by
      rw [if_pos c1] at hG
      refine Tm_suc (fun k => by rw [x_readProgram]) ?_
      refine Tm_ob (p_word h (s := 0) (by decide) upd_same) (fun r hr => ?_)
      obtain ⟨a, τ⟩ := r
      obtain ⟨rfl, hr⟩ := hr
      refine Tm_ite (fun y => absurd y (hr.mpr c1)) (fun _ => ?_)
      rcases pb_any hG with ⟨hv, hy⟩ | ⟨r, hv, hg2⟩
      · refine Tm_ob (p_declareVar hv h (by omega) (fun _ => by rw [hl]; omega)) (fun r2 hr2 => ?_)
        obtain ⟨⟨m, hB⟩, hV⟩ := hr2
        rw [K1 hy]
        exact rp_b11 hB (FrP_tr hF (FrP_V hV))
      · refine Tm_ob (p_declareVar hv h (by omega) (fun _ => by rw [hl]; omega)) (fun r2 hr2 => ?_)
        obtain ⟨hS2, hV⟩ := hr2
        rw [p7] at hV
        rcases pT_any hv with ⟨_, z⟩ | ⟨_, hr⟩
        · cases z
        obtain ⟨m1, m2, m3, m4, m5, m6, m7, m8, m9, m10, m11, m12⟩ := gvr_mo _ _ _ _ _ _ hN.2.1 p5 hr
        obtain ⟨k1, k2⟩ := m9 p7
        have u : ∀ j, ¬ ((5 ≤ j ∧ j ≤ 13) ∨ j = 24 ∨ j = 25 ∨ j = 38 ∨ (46 ≤ j ∧ j ≤ 48)) → r2.2.1 j = τ.1 j := hV.1
        refine ih _ _ hg2 K1 K2 _ N ⟨hS2, ?_, ⟨?_, h30.2.1, ?_, h30.2.2.2⟩, ?_, ?_, ?_, ?_, ?_⟩ ⟨m2, ?_, ?_, ?_, m4, p6, ?_⟩ (FrP_tr hF (FrP_V hV))
        · refine ⟨fun y hy hk3 i hi => ?_, (u 45 (by decide)).trans hZ.2.1, (u 44 (by decide)).trans hZ.2.2.1, hZ.2.2.2.1, fun i => ?_⟩
          · rw [hV.2.2.1 19 (by decide)]
            have hi : i < r.2.1.2.2.2.2.2.2 y.2.2.2 := hi
            rw [m8] at hi
            exact hZ.1 y (m11 y hy (by rw [hk3]; decide)) hk3 i hi
          · rw [hV.2.2.1 10 (by decide), hV.2.2.1 11 (by decide)]; exact hZ.2.2.2.2 i
        · exact (u 30 (by decide)).trans h30.1
        · exact (u 31 (by decide)).trans h30.2.2.1
        · show r.2.1.2.1 = [] ∧ r.2.1.2.2.1 = [] ∧ r.2.1.2.2.2.1 = 0
          rw [k2]; exact hE
        · show r.2.1.1.length = r.2.2.1 + g.2.2.2.1; omega
        · intro y hy hn; exact hk y (m11 y hy hn) hn
        · intro i hi
          refine ⟨by rw [hV.2.2.1 17 (by decide)]; exact (h17 i hi).1, UnO_fr (h17 i hi).2.1 ?_ (fun s hs => ?_) rfl (fun _ _ => rfl), MoO_fr (h17 i hi).2.2 (fun j _ => by rw [hV.2.2.1 19 (by decide)]) (by show r.2.1.2.2.2.2.2.2 i = _; rw [m8]) rfl⟩
          · exact hV.2.2.2.1 _ (by omega)
          · exact hV.2.2.2.2 _ (by omega)
        · exact (FrP_V hV).2.2.2 hA
        · show 1 ≤ r.2.2.2.1; omega
        · show r.2.2.2.1 ≤ 1 + r.1; omega
        · show r.2.2.2.2.1 ≤ r.1; omega
        · show r.2.1.2.2.2.1 = 0; rw [m8]; exact p7
    -- func, proc
    have l33 : tkK T n g.1 = 34 ∨ tkK T n g.1 = 33 → Tm (fun k => x_readProgram k 12 N ρ) (PoR T n σ x) := fun c1 => by
      rw [if_neg (by omega), if_pos c1] at hG
      refine Tm_suc (fun k => by rw [x_readProgram]) ?_
      refine Tm_ob (p_word h (s := 0) (by decide) upd_same) (fun r hr => ?_)
      obtain ⟨a, τ⟩ := r
      obtain ⟨rfl, hr⟩ := hr
      refine Tm_ite (fun _ => ?_) (fun y => absurd (hr.mp y) (by omega))
      refine Tm_suc (fun k => by rw [x_readProgram]) ?_
      refine Tm_ob (Tm_and (p_word h (s := 1) (by decide) upd_same) (s_isW01 _ τ)) (fun r2 hr2 => ?_)
      obtain ⟨a2, τ2⟩ := r2
      obtain ⟨⟨rfl, hr2⟩, h01⟩ := hr2
      have hL : upd (fun _ => (0 : Int32)) 1 a2 1 = nI (if decide (tkK T n g.1 = 33) = true then 1 else 0) := by
        rw [upd_same]
        by_cases e : tkK T n g.1 = 33
        · rw [if_pos (decide_eq_true e)]
          rcases h01 with z | z
          · exact absurd z (hr2.mpr e)
          · exact z
        · rw [if_neg (by rw [decide_eq_false e]; decide)]
          rcases h01 with z | z
          · exact z
          · have z : a2 = 1 := z
            exact absurd (hr2.mp (fun w => absurd (z.symm.trans w) (by decide))) e
      rcases pb_any hG with ⟨hv, hy⟩ | ⟨r, hv, hg2⟩
      · refine Tm_ob (p_callable hv hD0 (by omega) (by omega) hL) (fun r2 hr2 => ?_)
        obtain ⟨⟨m, hB⟩, hV⟩ := hr2
        rw [K1 hy]
        exact rp_b11 hB (FrP_tr hF hV)
      · refine Tm_ob (p_callable hv hD0 (by omega) (by omega) hL) (fun r2 hr2 => ?_)
        obtain ⟨hD2, hV⟩ := hr2
        exact ih _ _ hg2 K1 K2 _ N hD2 (gCal_mo p1 p5 p2 p6 ⟨p3, p4⟩ hv).2 (FrP_tr hF hV)
    refine Tm_suc (fun k => by rw [x_readProgram]) ?_
    refine Tm_ite (fun _ => ?_) (fun z => absurd (PS_ok h) z)
    refine Tm_ob (p_word h (s := 0) (by decide) upd_same) (fun r hr => ?_)
    obtain ⟨a, τ⟩ := r
    obtain ⟨rfl, hr⟩ := hr
    refine Tm_ite (fun y1 => ?_) (fun y1 => l32 (hr.mp y1))
    refine Tm_ob (p_word h (s := 2) (by decide) upd_same) (fun r hr2 => ?_)
    obtain ⟨a2, τ2⟩ := r
    obtain ⟨rfl, hr2⟩ := hr2
    refine Tm_ite (fun y2 => ?_) (fun y2 => l33 (Or.inl (hr2.mp y2)))
    refine Tm_ob (p_word h (s := 1) (by decide) upd_same) (fun r hr3 => ?_)
    obtain ⟨a3, τ3⟩ := r
    obtain ⟨rfl, hr3⟩ := hr3
    refine Tm_ite (fun y3 => ?_) (fun y3 => l33 (Or.inr (hr3.mp y3)))
    rw [if_neg (fun w => hr.mpr w y1), if_neg (fun w => w.elim (fun w => hr2.mpr w y2) (fun w => hr3.mpr w y3))] at hG
    obtain rfl := Option.some.inj hG
    exact rp_14 (K2 g rfl) hD0 hP0 hF
/-- the state as a text's reading begins -/
def mBp (σ : MS) : MS := (upd (upd (upd (upd (upd (upd (upd (upd (upd (mBeg σ).1 22 1) 24 0) 25 0) 30 0) 31 0) 44 0) 37 0) 42 1) 43 1, σ.2.1, updG σ.2.2 21 (upd (σ.2.2 21) 0 0))
theorem mBp_s {σ : MS} {j : Nat} (h : ¬ (j = 5 ∨ j = 10 ∨ j = 13 ∨ j = 38 ∨ j = 52 ∨ j = 45 ∨ j = 22 ∨ j = 24 ∨ j = 25 ∨ j = 30 ∨ j = 31 ∨ j = 44 ∨ j = 37 ∨ j = 42 ∨ j = 43)) : (mBp σ).1 j = σ.1 j := by
  show upd (upd (upd (upd (upd (upd (upd (upd (upd (upd (upd (upd (upd (upd (upd σ.1 5 0) 10 0) 13 0) 38 0) 52 0) 45 0) 22 1) 24 0) 25 0) 30 0) 31 0) 44 0) 37 0) 42 1) 43 1 j = _
  rw [upd_other (by omega), upd_other (by omega), upd_other (by omega), upd_other (by omega), upd_other (by omega), upd_other (by omega), upd_other (by omega), upd_other (by omega), upd_other (by omega), upd_other (by omega), upd_other (by omega), upd_other (by omega), upd_other (by omega), upd_other (by omega), upd_other (by omega)]
theorem mBp_o {σ : MS} {j : Nat} (h : j ≠ 21) : (mBp σ).2.2 j = σ.2.2 j := updG_other h
theorem s_begP (L : Nat → Int32) (σ : MS) {R : Int32 × MS → Prop} (H : ∀ N : Nat → Int32, Tm (fun k => x_readProgram k 10 N (mBp σ)) R) : Tm (fun k => x_readProgram k 0 L σ) R := by
  refine Tm_suc (fun k => by rw [x_readProgram]) ?_
  refine Tm_ob (s_beginText _ σ) (fun r hr => ?_)
  rw [hr]
  refine Tm_suc (fun k => by rw [x_readProgram]) ?_
  refine Tm_suc (fun k => by rw [x_readProgram]) ?_
  refine Tm_suc (fun k => by rw [x_readProgram]) ?_
  refine Tm_suc (fun k => by rw [x_readProgram]) ?_
  refine Tm_suc (fun k => by rw [x_readProgram]) ?_
  refine Tm_suc (fun k => by rw [x_readProgram]) ?_
  refine Tm_suc (fun k => by rw [x_readProgram]) ?_
  refine Tm_chk (by decide) ?_
  refine Tm_suc (fun k => by rw [x_readProgram]) ?_
  refine Tm_suc (fun k => by rw [x_readProgram]) ?_
  exact H L
theorem p_readProgram {σ : MS} {L : Nat → Int32} {x : Option (PRG × ST)} (hn : mN σ n) (hT : σ.2.2 3 = T) (hW : σ.2.2 1 = mT mWords 264) (hA : PA σ) (hG : gPrg T n (g0 T n (σ.2.2 10) (σ.2.2 11)) = some x) : Tm (fun k => x_readProgram k 0 L σ) (PoR T n σ x) := by
  refine s_begP L σ (fun N => ?_)
  have hF0 : FrP σ (mBp σ) := ⟨fun j hj => mBp_s (by omega), rfl, fun j hj => mBp_o (by omega), fun z p hp => by rw [mBp_o (by decide)]; exact z p hp⟩
  have hP0 : P0 T n (g0 T n (σ.2.2 10) (σ.2.2 11)).2.1 0 (1, 0, fun _ _ => 0, fun _ => 0, fun _ => 0) (mBp σ) := by
    refine ⟨⟨(mBp_s (by decide)).trans hn.1, hn.2⟩, (mBp_o (by decide)).trans hT, (mBp_o (by decide)).trans hW, rfl, rfl, ⟨rfl, by decide⟩, ⟨rfl, Nat.le_refl _, rfl, fun j _ _ i h1 h2 => ?_, fun i hi => ?_⟩, ⟨rfl, Nat.zero_le _, rfl, Nat.zero_le _, fun i hi => absurd hi (Nat.not_lt_zero i)⟩, ⟨⟨rfl, Nat.le_refl _, trivial⟩, ⟨rfl, Nat.le_refl _, trivial⟩, ⟨rfl, Nat.zero_le _, fun k x hx => by cases hx⟩⟩, ⟨⟨fun z => absurd (show (1 : Int32) = 0 from z) (by decide), fun z => absurd (show true = false from z) (by decide)⟩, ⟨fun z => absurd (show (1 : Int32) = 0 from z) (by decide), fun z => absurd (show true = false from z) (by decide)⟩, fun x hx => by cases hx⟩⟩
    · exact absurd h2 (show ¬ i < 1 by omega)
    · exact absurd hi (Nat.not_lt_zero i)
  unfold gPrg at hG
  refine Tm_suc (fun k => by rw [x_readProgram]) ?_
  refine Tm_ob (p_first (M := 0) (P := 0) (w := 0) hP0 _) (fun r hr => ?_)
  have hFr : FrP σ r.2 := FrP_tr hF0 (FrP_Z (FrZ_of hr.1))
  by_cases c : tkK T n (sk T n 0) = 0
  · rw [if_pos c] at hG
    obtain rfl := Option.some.inj hG
    rcases hr.2 with ⟨_, hB⟩ | ⟨y, _⟩
    · exact rp_b11 hB hFr
    · exact absurd c y
  · rw [if_neg c] at hG
    rcases hr.2 with ⟨y, _⟩ | ⟨_, hS⟩
    · exact absurd y c
    · have u : ∀ j, ¬ ((5 ≤ j ∧ j ≤ 13) ∨ j = 22 ∨ j = 24 ∨ j = 38 ∨ (46 ≤ j ∧ j ≤ 48) ∨ j = 52) → r.2.1 j = (mBp σ).1 j := hr.1.1
      have hD : PD T n (g0 T n (σ.2.2 10) (σ.2.2 11)) r.2 := by
        refine ⟨hS, ⟨fun x hx => (by cases hx), (u 45 (by decide)), (u 44 (by decide)), Nat.zero_le _, fun i => ?_⟩, ⟨u 30 (by decide), Nat.zero_le _, u 31 (by decide), Nat.le_refl _⟩, ⟨rfl, rfl, rfl⟩, rfl, fun x hx => (by cases hx), fun i hi => absurd hi (Nat.not_lt_zero i), hFr.2.2.2 hA⟩
        rw [hr.1.2.2.1 10 (by decide), hr.1.2.2.1 11 (by decide), mBp_o (by decide), mBp_o (by decide)]
        exact ⟨rfl, rfl⟩
      rcases pb_any hG with ⟨hg, hx⟩ | ⟨g, hg, hx⟩
      · exact rp_11 _ _ _ hg (fun _ => hx) (fun g' hg' => by cases hg') _ N hD (g0_PL T n _ _) hFr
      · exact rp_11 _ _ _ hg (fun z => by cases z) (fun g' hg' => by obtain rfl := Option.some.inj hg'; exact hx) _ N hD (g0_PL T n _ _) hFr
end RPR
