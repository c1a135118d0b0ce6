/-! A func or proc of the reference. -/
def PA (σ : MS) : Prop := ∀ p, p < 41 → ∃ k, k ≤ 8 ∧ σ.2.2 18 p = nI k
/-- what the reading of a program leaves as it is -/
def FrP (σ σ' : MS) : Prop :=
  (∀ j, ¬ ((5 ≤ j ∧ j ≤ 13) ∨ j = 22 ∨ j = 24 ∨ j = 25 ∨ j = 30 ∨ j = 31 ∨ j = 37 ∨ j = 38 ∨ (42 ≤ j ∧ j ≤ 48) ∨ j = 52 ∨ j = 110) → σ'.1 j = σ.1 j) ∧ σ'.2.1 = σ.2.1 ∧ (∀ j, ¬ (4 ≤ j ∧ j ≤ 27) → σ'.2.2 j = σ.2.2 j) ∧ (PA σ → PA σ')
theorem FrP_rf {σ : MS} : FrP σ σ := ⟨fun _ _ => rfl, rfl, fun _ _ => rfl, fun z => z⟩
theorem FrP_tr {σ τ υ : MS} (h : FrP σ τ) (g : FrP τ υ) : FrP σ υ := ⟨fun j hj => (g.1 j hj).trans (h.1 j hj), g.2.1.trans h.2.1, fun j hj => (g.2.2.1 j hj).trans (h.2.2.1 j hj), fun z => g.2.2.2 (h.2.2.2 z)⟩
theorem FrP_U {c : Nat} {σ τ : MS} (hc : c ≤ 40) (h : FrU c σ τ) : FrP σ τ := ⟨fun j hj => h.1 j (by omega), h.2.1, fun j hj => h.2.2.1 j (by omega), fun z p hp => by
  by_cases e : p = c
  · subst e; exact h.2.2.2.2.2.2.2 (z p hp)
  · rw [h.2.2.2.1 p e]; exact z p hp⟩
theorem FrP_V {w : Nat} {σ τ : MS} (h : FrV w σ τ) : FrP σ τ := ⟨fun j hj => h.1 j (by omega), h.2.1, fun j hj => h.2.2.1 j (by omega), fun z p hp => by rw [h.2.2.1 18 (by decide)]; exact z p hp⟩
theorem FrP_Z {M P w : Nat} {σ τ : MS} (h : FrZ M P w σ τ) : FrP σ τ := ⟨fun j hj => h.1 j (by omega), h.2.1, fun j hj => h.2.2.1 j (by omega), fun z p hp => by rw [h.2.2.1 18 (by decide)]; exact z p hp⟩
theorem FrP_s {σ : MS} {u : Nat → Int32} (h : ∀ j, ¬ ((5 ≤ j ∧ j ≤ 13) ∨ j = 22 ∨ j = 24 ∨ j = 25 ∨ j = 30 ∨ j = 31 ∨ j = 37 ∨ j = 38 ∨ (42 ≤ j ∧ j ≤ 48) ∨ j = 52 ∨ j = 110) → u j = σ.1 j) : FrP σ (u, σ.2.1, σ.2.2) := ⟨h, rfl, fun _ _ => rfl, fun z => z⟩
theorem FrP_17 {c : Nat} {σ τ : MS} {x : Int32} (h : FrP σ (mAr τ 17 c x)) : FrP σ τ := ⟨h.1, h.2.1, fun j hj => by rw [← h.2.2.1 j hj, mAr_o (by omega)], fun z p hp => by have := h.2.2.2 z p hp; rw [mAr_o (by decide)] at this; exact this⟩
theorem FrP_out {σ : MS} : FrP σ (mOut σ) := FrP_s (fun j hj => by rw [upd_other (by omega), upd_other (by omega), upd_other (by omega), upd_other (by omega)])
theorem FrP_un {c : Nat} {σ : MS} {x y : Int32} : FrP σ (mUn σ c x y) := ⟨fun j hj => mUn_s (by omega), rfl, fun j hj => mUn_o (by omega), fun z p hp => by
  rw [mUn_18]
  by_cases e : p = c
  · rw [e, upd_same]; exact ⟨0, by decide, rfl⟩
  · rw [upd_other e]; exact z p hp⟩
/-- the state before a declaration -/
def PD (T : Nat → Int32) (n : Nat) (g : PRG) (σ : MS) : Prop :=
  PS T n g.2.1 0 g.1 g.2.2.2.2.2.1 g.2.2.2.2.2.2.1 σ ∧ ZZ g.2.2.1 g.2.1 g.2.2.2.2.2.2.2.1 σ ∧ (σ.1 30 = nI g.2.2.2.1 ∧ g.2.2.2.1 ≤ 40 ∧ σ.1 31 = nI g.2.2.2.2.1 ∧ g.2.2.2.2.1 ≤ g.2.2.2.1) ∧ (g.2.1.2.1 = [] ∧ g.2.1.2.2.1 = [] ∧ g.2.1.2.2.2.1 = 0) ∧ g.2.1.1.length = g.2.2.2.2.2.1 + g.2.2.2.1 ∧ (∀ x ∈ g.2.1.1, ¬ x.2.2.1 = 1 → x.2.2.2 < g.2.2.2.1) ∧ (∀ i, i < g.2.2.2.1 → σ.2.2 17 i = g.2.2.2.2.2.2.2.2 i ∧ UnO σ g.2.2.2.2.2.2.2.2 i ∧ MoO σ g.2.1 g.2.2.1 i) ∧ PA σ
def PoP (T : Nat → Int32) (n : Nat) (σ0 : MS) : Option PRG → Int32 × MS → Prop
  | none, r => (∃ m, Bb m r.2) ∧ FrP σ0 r.2
  | some g, r => PD T n g r.2 ∧ FrP σ0 r.2
section CAB
variable {T : Nat → Int32} {n : Nat} {E : En} {o q v c : Nat} {b : BT} {σ : MS}
theorem PS_sp {k : Nat} (h : PS T n E o q v b σ) (hE : ∀ x ∈ E.1, ¬ x.2.2.1 = 1 → x.2.2.2 < c) : PS T n (sP E c k) o q v b σ := by
  obtain ⟨s1, s2, s3, s4, s5, s6⟩ := h
  refine ⟨s1, s2, s3, s4, s5, s6.1, s6.2.1, fun x hx hn => ?_⟩
  have := hE x hx hn
  show x.2.2.2 < 41 ∧ σ.2.2 18 x.2.2.2 = nI (updN E.2.2.2.2.2.2 c k x.2.2.2) ∧ updN E.2.2.2.2.2.2 c k x.2.2.2 ≤ 8
  rw [updN_o (by omega)]; exact s6.2.2 x hx hn
theorem n_sub1 {o : Nat} (h : o < 2147483647) : nI (o + 1) - 1 = nI o := by
  have := n_sub (p := o + 1) (q := 1) (by omega) (by omega)
  exact this
/-- from the unit's entry on -/
theorem ca_18 {pr : Bool} {MD : Nat → Nat → Nat} {pc v0 : Nat} {b0 b1 : BT} {s : SB} {F : Nat → Int32} {E0 E1 : En} {x : Option PRG} {ρ : MS} {N : Nat → Int32} (hG : gCb T n pr E0 MD c pc v0 b0 b1 s F E1 q = some x) (h : PS T n E1 0 q 0 b1 ρ) (e1 : E1.2.2.2.1 = c + 1) (e2 : E1.2.2.1 = []) (e3 : E1.2.2.2.2.2.2 c = 0) (hMD : PMs ρ E0 MD) (hE0 : ∀ y ∈ E1.1, y.2.2.1 = 3 → y ∈ E0.1 ∨ y.2.2.2 = c) (hE1 : ∀ y ∈ E0.1, ¬ y.2.2.1 = 1 → y.2.2.2 < c) (hpar : ∀ i, i ≠ c → E1.2.2.2.2.2.2 i = E0.2.2.2.2.2.2 i)
    (h45 : ρ.1 45 = nI 0) (h44 : ρ.1 44 = nI s.1) (hs : s.1 ≤ 400) (h10 : ∀ i, ρ.2.2 10 i = s.2.1 i ∧ ρ.2.2 11 i = s.2.2 i) (hc : c < 40) (hn : b1.1 + (n + 1 - q) + 1067 ≤ 70000) (hp : b1.2.1 + (n - q) ≤ 70000) (n1 : N 1 = 0 ↔ pr = false) (n2 : N 2 = nI c)
    (h30 : ρ.1 30 = nI (c + 1)) (h31 : ρ.1 31 = nI (if pr = true then pc + 1 else pc)) (hpc : pc ≤ c) (h21 : ρ.2.2 21 0 = nI v0) (hv0 : v0 ≤ 60) (h20 : ∀ i, i < v0 → ρ.2.2 20 i = b0.2.2.2.2 i) (hl : E1.1.length = v0 + (c + 1)) (hk : ∀ y ∈ E1.1, ¬ y.2.2.1 = 1 → y.2.2.2 < c + 1) (h17 : ∀ i, i < c → ρ.2.2 17 i = F i ∧ UnO ρ F i ∧ MoO ρ E0 MD i) (hA : PA ρ) (hcE : ∃ y ∈ E1.1, ¬ y.2.2.1 = 1 ∧ y.2.2.2 = c) : Tm (fun k => x_declareCallable k 18 N ρ) (PoP T n ρ x) := by
  have hN := tkN_b T n q (PS_q h).1
  -- what comes of the end
  have fin : ∀ (y : Option BD) (Q : Nat → Int32 × Nat → BT → SB → MS → Prop), (∀ t, y = some t → ∀ ρ', Q t.1 t.2.1 t.2.2.1 t.2.2.2 ρ' → FrU c ρ (mAr ρ' 17 c (ρ.2.2 17 c)) → ∃ g, x = some g ∧ PD T n g (mOut ρ')) → (y = none → x = none) → ∀ g, Tm g (PoE T n c ρ Q y) → Tm g (PoP T n ρ x) := by
    intro y Q h1 h2 g hg
    refine Tm_mono hg (fun r hr => ?_)
    cases y with
    | none =>
      obtain ⟨ρ', e, ⟨m, hB⟩, hF⟩ := hr
      rw [h2 rfl]
      refine ⟨⟨m, ?_⟩, ?_⟩
      · rw [e]; exact ⟨by rw [mOut_s (by decide)]; exact hB.1, by rw [mOut_s (by decide)]; exact hB.2⟩
      · rw [e]; exact FrP_tr (FrP_17 (FrP_U (by omega) hF)) FrP_out
    | some t =>
      obtain ⟨ρ', e, hQ, hF⟩ := hr
      obtain ⟨g, hx, hPD⟩ := h1 t rfl ρ' hQ hF
      rw [hx]
      refine ⟨by rw [e]; exact hPD, ?_⟩
      rw [e]; exact FrP_tr (FrP_17 (FrP_U (by omega) hF)) FrP_out
  have bad : ∀ (m : Nat) (τ : MS), x = none → Bb m τ → FrU c ρ τ → Tm (fun k => x_declareCallable k 19 N τ) (PoP T n ρ x) := fun m τ hx hB hF => fin none (fun _ _ _ _ _ => False) (fun t ht => by cases ht) (fun _ => hx) _ (ca_b19 (by omega) n2 hB hF)
  have bad20 : ∀ (m : Nat) (τ : MS), x = none → Bb m τ → FrU c ρ τ → Tm (fun k => x_declareCallable k 20 N τ) (PoP T n ρ x) := fun m τ hx hB hF => fin none (fun _ _ _ _ _ => False) (fun t ht => by cases ht) (fun _ => hx) _ (ca_b20 (by omega) n2 hB hF)
  unfold gCb at hG
  refine Tm_suc (fun k => by rw [x_declareCallable]) ?_
  refine Tm_ob (p_open (M := 0) (P := 0) (w := c + 1) h _) (fun r hr => ?_)
  obtain ⟨hF1, hr⟩ := hr
  rcases hr with ⟨z, _⟩ | ⟨_, hS1, _⟩
  · exact absurd z (by decide)
  refine Tm_ite (fun _ => ?_) (fun z => absurd (PS_ok hS1) z)
  refine Tm_ob (v_take (w := c + 1) hS1 _) (fun r2 hr2 => ?_)
  have hU2 := FrU_tr (FrU_M hF1) (FrU_V hr2.1)
  rcases pT_any hG with ⟨z, hx⟩ | ⟨z, hg⟩
  · rcases hr2.2 with ⟨_, hB⟩ | ⟨y, _⟩
    · exact bad _ _ hx hB hU2
    · exact absurd z y
  rcases hr2.2 with ⟨y, _⟩ | ⟨_, hS2⟩
  · exact absurd y z
  refine Tm_suc (fun k => by rw [x_declareCallable]) ?_
  have call : ∀ y : Option PV6, GPm T n pr c (fu n) E1 0 (fun _ => 0) (tkN T n q) 0 b1 = some y → Tm (fun k => x_paramsOf k 0 (upd (upd (fun _ => 0) 1 (N 2)) 2 (N 1)) r2.2) (PoA T n 1 c r2.2 y) := by
    intro y hy
    refine Tm_suc (fun k => by rw [x_paramsOf]) ?_
    exact p_pm (by omega) _ _ _ _ _ _ _ _ hy _ _ hS2 (by omega) (by decide) (fun i hi => absurd hi (Nat.not_lt_zero i)) (by rw [upd_other (by decide), upd_other (by decide), upd_same]; exact n2) (by rw [upd_other (by decide), upd_same]; exact n1) upd_same e1
  rcases pb_any hg with ⟨hg2, hx⟩ | ⟨a, hg2, hg3⟩
  · refine Tm_ob (call _ hg2) (fun r3 hr3 => ?_)
    obtain ⟨⟨m, hB⟩, hF3⟩ := hr3
    refine Tm_ite (fun z => absurd z hB.1) (fun _ => ?_)
    exact bad20 m _ hx hB (FrU_tr hU2 (FrU_A hF3))
  refine Tm_ob (call _ hg2) (fun r3 hr3 => ?_)
  obtain ⟨hS3, hF3, hcnt, hmd⟩ := hr3
  obtain ⟨⟨a1, a2, a3, a4, a5⟩, a6, a7, a8, a9, a10, a11, a12, a13⟩ := gpm_mo _ _ _ _ _ _ _ _ hg2 hN.2.1 (by decide) e3
  have hN3 := tkN_b T n _ a7
  refine Tm_ite (fun _ => ?_) (fun z => absurd (PS_ok hS3) z)
  refine Tm_ob (v_take (w := c + 1) hS3 _) (fun r4 hr4 => ?_)
  have hU4 := FrU_tr hU2 (FrU_tr (FrU_A hF3) (FrU_V hr4.1))
  rcases pT_any hg3 with ⟨z, hx⟩ | ⟨z, hg4⟩
  · rcases hr4.2 with ⟨_, hB⟩ | ⟨y, _⟩
    · exact bad20 _ _ hx hB hU4
    · exact absurd z y
  rcases hr4.2 with ⟨y, _⟩ | ⟨_, hS4⟩
  · exact absurd y z
  refine Tm_suc (fun k => by rw [x_declareCallable]) ?_
  have o13 : r4.2.1 13 = nI (0 + 1) := hS4.2.1.1
  rw [o13, n_sub1 (by decide)]
  show Tm (fun k => x_declareCallable k 21 N (mOpn r4.2 (nI 0))) _
  have hS5 : PS T n a.2.1 0 (tkN T n a.1) a.2.2.2.2.1 a.2.2.2.2.2 (mOpn r4.2 (nI 0)) := PS_opn hS4 (by decide)
  have hU5 : FrU c ρ (mOpn r4.2 (nI 0)) := FrU_tr hU4 (FrU_opn _)
  have w5 : a.2.1.2.2.2.1 = c + 1 := a3.trans e1
  have s44 : (mOpn r4.2 (nI 0)).1 44 = ρ.1 44 := by
    show upd r4.2.1 13 (nI 0) 44 = _
    rw [upd_other (by decide), hr4.1.1 44 (by decide), hF3.1 44 (by decide), hr2.1.1 44 (by decide), hF1.1 44 (by decide)]
  have s45 : (mOpn r4.2 (nI 0)).1 45 = ρ.1 45 := by
    show upd r4.2.1 13 (nI 0) 45 = _
    rw [upd_other (by decide), hr4.1.1 45 (by decide), hF3.1 45 (by decide), hr2.1.1 45 (by decide), hF1.1 45 (by decide)]
  have s10 : ∀ j, j = 10 ∨ j = 11 → (mOpn r4.2 (nI 0)).2.2 j = ρ.2.2 j := fun j hj => by
    show r4.2.2.2 j = _
    rw [hr4.1.2.2.1 j (by omega), hF3.2.2.1 j (by omega), hr2.1.2.2.1 j (by omega), hF1.2.2.1 j (by omega)]
  have hZ5 : ZZ (fun p => if p = c then a.2.2.2.1 else MD p) a.2.1 s (mOpn r4.2 (nI 0)) := by
    refine ⟨fun y hy hk3 i hi => ?_, s45.trans h45, s44.trans h44, hs, fun i => ?_⟩
    · show r4.2.2.2 19 (8 * y.2.2.2 + i) = nI ((if y.2.2.2 = c then a.2.2.2.1 else MD y.2.2.2) i) ∧ (if y.2.2.2 = c then a.2.2.2.1 else MD y.2.2.2) i ≤ 2
      rw [a1] at hy
      rw [hr4.1.2.2.1 19 (by decide)]
      by_cases e : y.2.2.2 = c
      · rw [e, if_pos rfl]
        rw [e, a5] at hi
        exact hmd i hi
      · rw [if_neg e]
        rcases hE0 y hy hk3 with hy0 | hy0
        · rw [a4 _ e, hpar _ e] at hi
          have hlt := hE1 y hy0 (by rw [hk3]; decide)
          have hi8 : i < 8 := by
            have := (h.2.2.2.2.2.2.2 y hy (by rw [hk3]; decide)).2.2
            rw [hpar _ e] at this
            omega
          rw [hF3.2.2.2.2.1 _ (by omega), hr2.1.2.2.1 19 (by decide), hF1.2.2.1 19 (by decide)]
          exact hMD y hy0 hk3 i hi
        · exact absurd hy0 e
    · rw [s10 10 (by decide), s10 11 (by decide)]; exact h10 i
  have hb5 : a.2.2.2.2.2.1 + (n + 1 - tkN T n a.1) + 1067 ≤ 70000 := by rw [a10]; omega
  have hp5 : a.2.2.2.2.2.2.1 + (n - tkN T n a.1) ≤ 70000 := by omega
  rcases pb_any hg4 with ⟨hg5, hx⟩ | ⟨t, hg5, hx⟩
  · exact fin none _ (fun t ht => by cases ht) (fun _ => hx) _ (ca_body hg5 hS5 hZ5 w5 (by omega) hb5 hp5 hU5 n1 n2)
  · refine fin (some t) _ (fun t' ht ρ' hQ hF => ?_) (fun z => by cases z) _ (ca_body hg5 hS5 hZ5 w5 (by omega) hb5 hp5 hU5 n1 n2)
    obtain rfl := Option.some.inj ht
    obtain rfl := Option.some.inj hx
    obtain ⟨E', q1, q2, q3, q4, q5, q6⟩ := hQ
    have w6 : E'.2.2.2.1 = c + 1 := by rw [q3]; exact w5
    obtain ⟨_, _, v21, v60, v20⟩ := id q1.2.2.2.1
    rw [w6] at v21 v20
    refine ⟨_, rfl, ?_, ?_, ⟨?_, ?_, ?_, ?_⟩, ⟨rfl, rfl, rfl⟩, ?_, ?_, ?_, ?_⟩
    · have hh := PS_out (v0 := v0) (cn := b0.2.2.2.2) q1 (by rw [q3, a2]; exact e2) (by have := hF.2.2.2.2.2.1 0 (by omega); rw [mAr_o (by decide)] at this; rw [this]; exact h21) hv0 (fun i hi => by have := hF.2.2.2.2.2.2.1 i (by omega); rw [mAr_o (by decide)] at this; rw [this]; exact h20 i hi)
      rw [q2, q3] at hh
      exact hh
    · refine ZZ_fr q5 (mOut_s (by decide)) (mOut_s (by decide)) rfl rfl rfl q2.symm ?_
      show a.2.1.2.2.2.2.2.2 = E'.2.2.2.2.2.2
      rw [q3]
    · rw [mOut_s (by decide)]; exact (hF.1 30 (by decide)).trans h30
    · show c + 1 ≤ 40; omega
    · rw [mOut_s (by decide)]; exact (hF.1 31 (by decide)).trans h31
    · show (if pr = true then pc + 1 else pc) ≤ c + 1
      by_cases e : pr = true
      · rw [if_pos e]; omega
      · rw [if_neg e]; omega
    · show a.2.1.1.length = v0 + (c + 1); rw [a1]; exact hl
    · show ∀ y ∈ a.2.1.1, ¬ y.2.2.1 = 1 → y.2.2.2 < c + 1; rw [a1]; exact hk
    · intro i hi
      have hi : i < c + 1 := hi
      show ρ'.2.2 17 i = upF F c t.2.1 t.2.2.1.2.2.2.2 i ∧ UnO (mOut ρ') (upF F c t.2.1 t.2.2.1.2.2.2.2) i ∧ MoO (mOut ρ') (a.2.1.1, [], [], 0, true, true, a.2.1.2.2.2.2.2.2) (fun p => if p = c then a.2.2.2.1 else MD p) i
      by_cases e : i = c
      · rw [e, upF_c]
        refine ⟨q4, ⟨t.2.1.2, v60, upF_h, ?_, fun s hs => ?_⟩, ?_, fun j hj => ?_⟩
        · show ρ'.2.2 21 (1 + c) = _
          rw [Nat.add_comm 1 c]; exact v21
        · show ρ'.2.2 20 (60 * (1 + c) + s) = _
          rw [upF_s hc (by omega), Nat.add_comm 1 c]; exact v20 s hs
        · obtain ⟨y, y1, y2, y3⟩ := hcE
          have := (hS5.2.2.2.2.2.2.2 y (by rw [a1]; exact y1) y2).2.2
          rw [y3] at this; exact this
        · have hj : j < a.2.1.2.2.2.2.2.2 c := hj
          rw [a5] at hj
          show ρ'.2.2 19 (8 * c + j) = nI ((if c = c then a.2.2.2.1 else MD c) j) ∧ (if c = c then a.2.2.2.1 else MD c) j ≤ 2
          rw [if_pos rfl, q6]
          show r4.2.2.2 19 (8 * c + j) = _ ∧ _
          rw [hr4.1.2.2.1 19 (by decide)]
          exact hmd j hj
      · refine ⟨?_, UnO_fr (h17 i (by omega)).2.1 ?_ (fun s hs => ?_) (upF_o (by omega)) (fun s hs => upF_o (by omega)), MoO_fr (h17 i (by omega)).2.2 (fun j hj => ?_) ((a4 i e).trans (hpar i e)) (if_neg e)⟩
        · rw [upF_o (by omega), ← (h17 i (by omega)).1, ← hF.2.2.1 17 (by decide), mAr_s, upd_other e]
        · show ρ'.2.2 21 (1 + i) = _
          have := hF.2.2.2.2.2.1 (1 + i) (by omega)
          rw [mAr_o (by decide)] at this; exact this
        · show ρ'.2.2 20 (60 * (1 + i) + s) = _
          have := hF.2.2.2.2.2.2.1 (60 * (1 + i) + s) (by omega)
          rw [mAr_o (by decide)] at this; exact this
        · show ρ'.2.2 19 (8 * i + j) = _
          have := hF.2.2.2.2.1 (8 * i + j) (by omega)
          rw [mAr_o (by decide)] at this; exact this
    · exact ((FrP_17 (FrP_U (by omega) hF)).2.2.2 hA)
end CAB
