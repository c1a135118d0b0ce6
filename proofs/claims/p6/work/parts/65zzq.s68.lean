/-! A statement of the reference. -/
/-- ifs, whiles, fors -/
def SC (T : Nat → Int32) (n : Nat) (MD : Nat → Nat → Nat) (f nt m : Nat) : Prop := ∀ (E : En) (lp o q v : Nat) (b : BT) (s : SB) (x : Option ST), GS T n MD f nt E lp o q v 0 0 0 b s = some x → ¬ tkK T n q = 25 → ¬ o = 20 → ∀ (σ : MS) (L : Nat → Int32) (d M P : Nat), PZ T n MD E lp o q v b s σ → 1 ≤ M → M ≤ b.1 → P ≤ b.2.1 → b.1 + (n + 1 - q) + 967 + d ≤ 70000 → b.2.1 + (n - q) ≤ 70000 → 3 * (20 - o) ≤ d + 1 → Tm (fun k => x_GS k d m 0 L σ) (PoZ T n MD E lp o M P (b.1 + (n + 1 - q) + 964 + d) σ x)
section STM
variable {T : Nat → Int32} {n : Nat} {E : En} {o q v M P w lp : Nat} {b : BT} {s : SB} {MD : Nat → Nat → Nat} {σ τ : MS}
theorem sc_4 {f : Nat} (H0 : SB0 T n MD f) : SC T n MD (f + 1) 4 4 := fun E lp o q v b s x hG hK ho σ L d M P hZ h1 hM hP hn hp hd => by
  have ho2 := PS_o hZ.1
  obtain ⟨d', rfl⟩ : ∃ d', d = d' + 1 := ⟨d - 1, by omega⟩
  exact e_whiles H0 hG hK ho hZ h1 hM hP hn hp (by omega)
abbrev rS (s : SB) (q : Nat) (r : ST) : SR := some (some (r.1, r.2.1, s.1, r.2.2.2.1, bSet r.2.2.2.2.1 8 r.2.2.2.1 (nI s.1), sPl r.2.2.2.2.2 s.1 (nI q)))
/-- behind a statement of one piece -/
theorem st_lf {X : RG} {y : Option RT} {x : Option ST} {d K K' : Nat} {ρ : MS} {N : Nat → Int32} {r : Int32 × MS} (hX : X = some y) (hmo : ∀ u, X = some (some u) → MoS n M b q v u) (hG : hb (lb X (lif (sMo s))) (rS s q) = some x) (hZ : PZ T n MD E lp o q v b (sMo s) ρ) (hF : FrZ M P E.2.2.2.1 σ ρ) (hr : Po T n E o M P K' ρ y r) (hN2 : N 2 = nI s.1) (hN3 : N 3 = nI q) (hst : s.1 < 401) (hK : K' ≤ K) (hb : b.1 + (n + 1 - q) ≤ 70000) : Tm (fun k => x_GS k d 3 14 (upd N 4 r.1) r.2) (PoZ T n MD E lp o M P K σ x) := by
  have j2 : upd N 4 r.1 2 = nI s.1 := by rw [upd_other (by decide)]; exact hN2
  have j3 : upd N 4 r.1 3 = nI q := by rw [upd_other (by decide)]; exact hN3
  have j4 : upd N 4 r.1 4 = r.1 := upd_same
  generalize upd N 4 r.1 = N' at j2 j3 j4
  cases y with
  | none =>
    obtain ⟨⟨m, hm, hmk, hMm⟩, ⟨e, e1, e2, e3⟩, hF1⟩ := hr
    rw [hX] at hG
    have hx : x = none := (Option.some.inj hG).symm
    subst hx
    exact st14b hm (FrZ_tr hF (FrZ_of hF1)) (j4.trans e1) e3 e2 j2 hst (by omega) hMm
  | some u =>
    obtain ⟨hS1, hr1, hF1⟩ := hr
    obtain ⟨⟨a1, a2, a3, a4, a5, a6, a7, a8⟩, a9, a10⟩ := hmo u hX
    rw [hX] at hG
    have hx := Option.some.inj hG
    subst hx
    exact st14 (t := (u.1, u.2.1, 0, u.2.2.2.1, u.2.2.2.2.1, sMo s)) (PZ_fr2 hZ hS1 hF1 hZ.2.2.1.2) (FrZ_tr hF (FrZ_of hF1)) (j4.trans hr1) a9.1 (by show u.2.2.2.1 < 70000; omega) j2 hst j3
/-- behind a statement with parts -/
theorem st_cp {X : SR} {y : Option ST} {x : Option ST} {d K K' : Nat} {ρ : MS} {N : Nat → Int32} {r : Int32 × MS} (hX : X = some y) (hmo : ∀ u, X = some (some u) → (M ≤ u.2.2.2.1 ∧ u.2.2.2.1 < 70000)) (hG : hb X (rS s q) = some x) (hF : FrZ M P E.2.2.2.1 σ ρ) (hr : PoZ T n MD E lp o M P K' ρ y r) (hN2 : N 2 = nI s.1) (hN3 : N 3 = nI q) (hst : s.1 < 401) (hK : K' ≤ K) : Tm (fun k => x_GS k d 3 14 (upd N 4 r.1) r.2) (PoZ T n MD E lp o M P K σ x) := by
  have j2 : upd N 4 r.1 2 = nI s.1 := by rw [upd_other (by decide)]; exact hN2
  have j3 : upd N 4 r.1 3 = nI q := by rw [upd_other (by decide)]; exact hN3
  have j4 : upd N 4 r.1 4 = r.1 := upd_same
  generalize upd N 4 r.1 = N' at j2 j3 j4
  cases y with
  | none =>
    obtain ⟨⟨m, hm, hmk, hMm⟩, ⟨e, e1, e2, e3⟩, hF1⟩ := hr
    rw [hX] at hG
    have hx : x = none := (Option.some.inj hG).symm
    subst hx
    exact st14b hm (FrZ_tr hF hF1) (j4.trans e1) e3 e2 j2 hst (by omega) hMm
  | some u =>
    obtain ⟨hZ1, hr1, hF1⟩ := hr
    have a9 := hmo u hX
    rw [hX] at hG
    have hx := Option.some.inj hG
    subst hx
    exact st14 (t := u) hZ1 (FrZ_tr hF hF1) (j4.trans hr1) a9.1 a9.2 j2 hst j3
theorem st8 {f d K : Nat} {x : Option ST} {ρ : MS} {N : Nat → Int32} (H2 : SC T n MD f 2 2) (H4 : SC T n MD f 4 4) (H5 : SC T n MD f 5 1)
    (hG : hb (if tkK T n q = 26 then lb (gBg T n f MD E o q v b) (lif (sMo s))
        else if tkK T n q = 10 then lb (gPa T n f E o q v b) (lif (sMo s))
        else if tkK T n q = 39 then GS T n MD f 2 E lp o q v 0 0 0 b (sMo s)
        else if tkK T n q = 43 then GS T n MD f 4 E lp o q v 0 0 0 b (sMo s)
        else if tkK T n q = 45 then GS T n MD f 5 E lp o q v 0 0 0 b (sMo s)
        else lb (gSm T n f lp E o q v b) (lif (sMo s))) (rS s q) = some x)
    (hSt : isSt (tkK T n q)) (hOp : isOp (tkK T n q) → ¬ o = 20) (hZ : PZ T n MD E lp o q v b (sMo s) ρ) (hF : FrZ M P E.2.2.2.1 σ ρ) (hN2 : N 2 = nI s.1) (hst : s.1 < 400) (h1 : 1 ≤ M) (hM : M ≤ b.1) (hP : P ≤ b.2.1) (hn : b.1 + (n + 1 - q) + 967 + d ≤ 70000) (hp : b.2.1 + (n - q) ≤ 70000) (hd : 3 * (20 - o) ≤ d) (hK : b.1 + (n + 1 - q) + 964 + d ≤ K) : Tm (fun k => x_GS k d 3 8 N ρ) (PoZ T n MD E lp o M P K σ x) := by
  have hS := hZ.1
  have hq := PS_q hS
  have hv := PS_v hS
  have h8 : ρ.1 8 = nI q := (PS_cur hS).2.1
  have hc := cur_kind (PS_cur hS)
  have hw := cur_what (PS_cur hS)
  refine Tm_suc (fun k => by rw [xS_3]) ?_
  refine Tm_ite (fun z => ?_) (fun z26 => ?_)
  · have hK26 := hc.2.1.mp z
    rw [if_pos hK26] at hG
    obtain ⟨y, hy⟩ : ∃ y, gBg T n f MD E o q v b = some y := by
      rcases hb_any hG with ⟨h, _⟩ | ⟨u, h, _⟩
      · rcases lb_any h with ⟨h, _⟩ | ⟨_, h, _⟩
        · exact ⟨_, h⟩
        · exact ⟨_, h⟩
      · rcases lb_any h with ⟨h, _⟩ | ⟨_, h, _⟩
        · exact ⟨_, h⟩
        · exact ⟨_, h⟩
    refine Tm_ob (p_begun (M := M) (P := P) hy hK26 hS hZ.2.1 h1 hM hP (by omega) hp) (fun r hr => ?_)
    exact st_lf hy (fun u hu => moBg hq.1 hv h1 hM hu) hG hZ hF hr (by rw [upd_other (by decide)]; exact hN2) (by rw [upd_same]; exact h8) (by omega) (by omega) (by omega)
  have zK26 : ¬ tkK T n q = 26 := fun y => z26 (hc.2.1.mpr y)
  rw [if_neg zK26] at hG
  have j2 : upd (upd N 3 (ρ.1 8)) 4 0 2 = nI s.1 := by rw [upd_other (by decide), upd_other (by decide)]; exact hN2
  have j3 : upd (upd N 3 (ρ.1 8)) 4 0 3 = nI q := by rw [upd_other (by decide), upd_same]; exact h8
  generalize upd (upd N 3 (ρ.1 8)) 4 0 = N1 at j2 j3
  refine Tm_suc (fun k => by rw [xS_3]) ?_
  refine Tm_ob (p_sign hS (s := 10) (by decide) (by decide) rfl) (fun r1 hr1 => ?_)
  obtain ⟨u, τ⟩ := r1
  obtain ⟨h3, hr1⟩ := hr1
  have h3 : τ = ρ := h3
  subst h3
  refine Tm_ite (fun z1 => ?_) (fun z => ?_)
  · have z10 : ¬ tkK T n q = 10 := fun y => hr1.mpr y z1
    rw [if_neg z10] at hG
    have hK32 : 32 ≤ tkK T n q := by rcases hSt with y | y | y | y | y | y <;> omega
    have h7 : τ.1 7 = nI (tkK T n q - 32) := hw.2.1 hK32
    have hb85 := hw.2.2
    have isw : ∀ {s : Nat}, s < 2147483648 → (τ.1 7 = nI s ↔ tkK T n q - 32 = s) := fun hs => is_n h7 (by omega) hs
    have mo : ∀ nt : Nat, (nt = 2 ∨ nt = 4 ∨ nt = 5) → ∀ u : ST, GS T n MD f nt E lp o q v 0 0 0 b (sMo s) = some (some u) → (M ≤ u.2.2.2.1 ∧ u.2.2.2.1 < 70000) := fun nt hnt u hu => by
      obtain ⟨⟨b1, b2, b3, b4, b5, b6, b7, b8, b9, b10⟩, _, e2, _⟩ := gs_mo f _ _ _ _ _ _ _ _ _ _ _ u M (by omega) hq.1 hv hZ.2.2.2.2.1 hu h1 hM (fun z => absurd z (by omega)) (fun _ _ => by omega)
      have e2 := (e2 (by omega)).1
      exact ⟨e2.1, by omega⟩
    refine Tm_suc (fun k => by rw [xS_3]) ?_
    refine Tm_ite (fun z => ?_) (fun y7 => ?_)
    · have z := (isw (s := 7) (by decide)).mp z
      have z : tkK T n q = 39 := by omega
      rw [if_pos z] at hG
      have ho := hOp (Or.inl z)
      have ho2 := PS_o hS
      obtain ⟨d', rfl⟩ : ∃ d', d = d' + 1 := ⟨d - 1, by omega⟩
      obtain ⟨y, hy⟩ : ∃ y, GS T n MD f 2 E lp o q v 0 0 0 b (sMo s) = some y := by
        rcases hb_any hG with ⟨h, _⟩ | ⟨u, h, _⟩
        · exact ⟨_, h⟩
        · exact ⟨_, h⟩
      refine Tm_ob (H2 _ _ _ _ _ _ _ y hy (by omega) ho τ (fun _ => 0) d' M P hZ h1 hM hP (by omega) hp (by omega)) (fun r hr => ?_)
      exact st_cp hy (mo 2 (by decide)) hG hF hr j2 j3 (by omega) (by omega)
    have y7 : ¬ tkK T n q = 39 := fun y => y7 ((isw (s := 7) (by decide)).mpr (by omega))
    rw [if_neg y7] at hG
    refine Tm_suc (fun k => by rw [xS_3]) ?_
    refine Tm_ite (fun z => ?_) (fun y11 => ?_)
    · have z := (isw (s := 11) (by decide)).mp z
      have z : tkK T n q = 43 := by omega
      rw [if_pos z] at hG
      have ho := hOp (Or.inr (Or.inl z))
      have ho2 := PS_o hS
      obtain ⟨d', rfl⟩ : ∃ d', d = d' + 1 := ⟨d - 1, by omega⟩
      obtain ⟨y, hy⟩ : ∃ y, GS T n MD f 4 E lp o q v 0 0 0 b (sMo s) = some y := by
        rcases hb_any hG with ⟨h, _⟩ | ⟨u, h, _⟩
        · exact ⟨_, h⟩
        · exact ⟨_, h⟩
      refine Tm_ob (H4 _ _ _ _ _ _ _ y hy (by omega) ho τ (fun _ => 0) d' M P hZ h1 hM hP (by omega) hp (by omega)) (fun r hr => ?_)
      exact st_cp hy (mo 4 (by decide)) hG hF hr j2 j3 (by omega) (by omega)
    have y11 : ¬ tkK T n q = 43 := fun y => y11 ((isw (s := 11) (by decide)).mpr (by omega))
    rw [if_neg y11] at hG
    refine Tm_suc (fun k => by rw [xS_3]) ?_
    refine Tm_ite (fun z => ?_) (fun y13 => ?_)
    · have z := (isw (s := 13) (by decide)).mp z
      have z : tkK T n q = 45 := by omega
      rw [if_pos z] at hG
      have ho := hOp (Or.inr (Or.inr (Or.inl z)))
      have ho2 := PS_o hS
      obtain ⟨d', rfl⟩ : ∃ d', d = d' + 1 := ⟨d - 1, by omega⟩
      obtain ⟨y, hy⟩ : ∃ y, GS T n MD f 5 E lp o q v 0 0 0 b (sMo s) = some y := by
        rcases hb_any hG with ⟨h, _⟩ | ⟨u, h, _⟩
        · exact ⟨_, h⟩
        · exact ⟨_, h⟩
      refine Tm_ob (H5 _ _ _ _ _ _ _ y hy (by omega) ho τ (fun _ => 0) d' M P hZ h1 hM hP (by omega) hp (by omega)) (fun r hr => ?_)
      exact st_cp hy (mo 5 (by decide)) hG hF hr j2 j3 (by omega) (by omega)
    have y13 : ¬ tkK T n q = 45 := fun y => y13 ((isw (s := 13) (by decide)).mpr (by omega))
    rw [if_neg y13] at hG
    have hsm : 49 ≤ tkK T n q ∧ tkK T n q ≤ 56 := by
      rcases hSt with y | y | y | y | y | y
      · exact absurd y zK26
      · exact absurd y z10
      · exact absurd y y7
      · exact absurd y y11
      · exact absurd y y13
      · exact y
    obtain ⟨y, hy⟩ : ∃ y, gSm T n f lp E o q v b = some y := by
      rcases hb_any hG with ⟨h, _⟩ | ⟨u, h, _⟩
      · rcases lb_any h with ⟨h, _⟩ | ⟨_, h, _⟩
        · exact ⟨_, h⟩
        · exact ⟨_, h⟩
      · rcases lb_any h with ⟨h, _⟩ | ⟨_, h, _⟩
        · exact ⟨_, h⟩
        · exact ⟨_, h⟩
    refine Tm_suc (fun k => by rw [xS_3]) ?_
    refine Tm_ob (p_simple (M := M) (P := P) hy hsm.1 hsm.2 (by rw [hZ.2.2.1.1]; exact n_eq0 (by have := hZ.2.2.1.2; have := PS_o hS; omega)) hS h1 hM hP (by omega) hp) (fun r hr => ?_)
    exact st_lf hy (fun u hu => moSm hq.1 hv h1 hM hu) hG hZ hF hr j2 j3 (by omega) (by omega) (by omega)
  · have hK10 := hr1.mp z
    rw [if_pos hK10] at hG
    obtain ⟨y, hy⟩ : ∃ y, gPa T n f E o q v b = some y := by
      rcases hb_any hG with ⟨h, _⟩ | ⟨u, h, _⟩
      · rcases lb_any h with ⟨h, _⟩ | ⟨_, h, _⟩
        · exact ⟨_, h⟩
        · exact ⟨_, h⟩
      · rcases lb_any h with ⟨h, _⟩ | ⟨_, h, _⟩
        · exact ⟨_, h⟩
        · exact ⟨_, h⟩
    refine Tm_ob (p_partsOf (M := M) (P := P) hy (by omega) hS h1 hM hP (by omega) hp) (fun r hr => ?_)
    exact st_lf hy (fun u hu => moPa hq.1 hv h1 hM hu) hG hZ hF hr j2 j3 (by omega) (by omega) (by omega)
end STM
