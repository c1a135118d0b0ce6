/-! Simple statements: the reference's. -/
section SIM
variable {T : Nat → Int32} {n : Nat} {E : En} {o M P : Nat}
theorem is_n {x : Int32} {w s : Nat} (h : x = nI w) (hw : w < 2147483648) (hs : s < 2147483648) : (x = nI s ↔ w = s) := by rw [h]; exact n_eq hw hs
theorem up4 {a b c d : Int32} : upd (upd (upd (upd (fun _ => (0 : Int32)) 1 a) 2 b) 3 c) 4 d 1 = a ∧ upd (upd (upd (upd (fun _ => (0 : Int32)) 1 a) 2 b) 3 c) 4 d 2 = b ∧ upd (upd (upd (upd (fun _ => (0 : Int32)) 1 a) 2 b) 3 c) 4 d 3 = c ∧ upd (upd (upd (upd (fun _ => (0 : Int32)) 1 a) 2 b) 3 c) 4 d 4 = d :=
  ⟨by rw [upd_other (by decide), upd_other (by decide), upd_other (by decide), upd_same], by rw [upd_other (by decide), upd_other (by decide), upd_same], by rw [upd_other (by decide), upd_same], upd_same⟩
/-- a node of a kind and three fields -/
theorem p_nd {q v w : Nat} {b : BT} {σ : MS} {a x y z : Int32} (h : PS T n E o q v b σ) (hm : b.1 < 70000) (hM : M ≤ b.1) : Tm (fun k => x_node k 0 (upd (upd (upd (upd (fun _ => 0) 1 a) 2 x) 3 y) 4 z) σ) (fun r => r.1 = nI b.1 ∧ PS T n E o q v (bNode b a x y z) r.2 ∧ FrM M P w σ r.2) := by
  have u4 := @up4 a x y z
  refine Tm_mono (p_node (M := M) (P := P) (w := w) h hm hM _) (fun r hr => ?_)
  rw [u4.1, u4.2.1, u4.2.2.1, u4.2.2.2] at hr
  exact hr
theorem sm25 {q v e K : Nat} {b : BT} {x : Option RT} {σ ρ : MS} {N : Nat → Int32} (hG : gS13 T n q v e b = some x) (hS : PS T n E o q v b ρ) (hF : FrM M P E.2.2.2.1 σ ρ) (hN : N 2 = nI e) (he : M ≤ e) (he2 : e < 70000) (hK : b.1 ≤ K) (hM : M ≤ b.1) : Tm (fun k => x_simple k 25 N ρ) (Po T n E o M P K σ x) := by
  unfold gS13 at hG
  refine Tm_suc (fun k => by rw [x_simple]) ?_
  refine Tm_ob (p_want (M := M) (P := P) (w := E.2.2.2.1) hS (s := 13) (by decide) (by decide) rfl) (fun r hr => ?_)
  rcases gW_any hG with ⟨t, rfl⟩ | ⟨t, hG⟩
  · rcases hr.2 with ⟨_, hB⟩ | ⟨y, _⟩
    · exact Tm_some ⟨⟨_, hB, by omega, hM⟩, ⟨e, hN, he2, Or.inr he⟩, FrM_tr hF hr.1⟩
    · exact absurd y t
  rcases hr.2 with ⟨y, _⟩ | ⟨_, hS2⟩
  · exact absurd t y
  cases hG
  exact Tm_some ⟨hS2, hN, FrM_tr hF hr.1⟩
theorem sm25b {m e K : Nat} {σ ρ : MS} {N : Nat → Int32} (hB : Bb m ρ) (hF : FrM M P E.2.2.2.1 σ ρ) (hN : N 2 = nI e) (he : M ≤ e) (he2 : e < 70000) (hK : m ≤ K) (hM : M ≤ m) : Tm (fun k => x_simple k 25 N ρ) (Po T n E o M P K σ none) := by
  refine Tm_suc (fun k => by rw [x_simple]) ?_
  refine Tm_ob (b_want hB.1 _) (fun r hr => ?_)
  obtain ⟨u, τ⟩ := r
  have hr : τ = ρ := hr
  subst hr
  exact Tm_some ⟨⟨_, hB, by omega, hM⟩, ⟨e, hN, he2, Or.inr he⟩, hF⟩
/-- a node after a fault, then the end -/
theorem smN {m K : Nat} {σ ρ : MS} {N L : Nat → Int32} (hB : Bb m ρ) (hF : FrM M P E.2.2.2.1 σ ρ) (hm : m < 70000) (hK : m + 1 ≤ K) (hM : M ≤ m) : Tm (fun k => ob (x_node k 0 L ρ) (fun r1 => x_simple k 25 (upd N 2 r1.1) r1.2)) (Po T n E o M P K σ none) := by
  refine Tm_ob (b_node (M := M) (P := P) (w := E.2.2.2.1) hB hm hM _) (fun r hr => ?_)
  exact sm25b hr.2.1 (FrM_tr hF hr.2.2) (by rw [upd_same]; exact hr.1) hM hm hK (by omega)
theorem sm19b {m K : Nat} {σ ρ : MS} {N : Nat → Int32} (hB : Bb m ρ) (hF : FrM M P E.2.2.2.1 σ ρ) (hm : m < 70000) (hK : m + 1 ≤ K) (hM : M ≤ m) : Tm (fun k => x_simple k 18 N ρ) (Po T n E o M P K σ none) := by
  refine Tm_suc (fun k => by rw [x_simple]) ?_
  refine Tm_ob (b_want hB.1 _) (fun r hr => ?_)
  obtain ⟨u, τ⟩ := r
  have hr : τ = ρ := hr
  subst hr
  show Tm (fun k => x_simple k 19 N (mOpn τ (τ.1 13 - 1))) _
  refine Tm_suc (fun k => by rw [x_simple]) ?_
  exact smN (Bb_opn hB _) (FrM_tr hF (FrM_opn _)) hm hK hM
theorem sm15b {m K : Nat} {σ ρ : MS} {N : Nat → Int32} (hB : Bb m ρ) (hF : FrM M P E.2.2.2.1 σ ρ) (hm : m < 70000) (hK : m + 1 ≤ K) (hM : M ≤ m) : Tm (fun k => x_simple k 15 N ρ) (Po T n E o M P K σ none) := by
  refine Tm_suc (fun k => by rw [x_simple]) ?_
  refine Tm_ob (b_xexp hB.1 _) (fun r hr => ?_)
  subst hr
  refine Tm_suc (fun k => by rw [x_simple]) ?_
  refine Tm_ite (fun z => absurd z hB.1) (fun _ => ?_)
  exact sm19b hB hF hm hK hM
theorem sm13b {m K : Nat} {σ ρ : MS} {N : Nat → Int32} (hB : Bb m ρ) (hF : FrM M P E.2.2.2.1 σ ρ) (hm : m < 70000) (hK : m + 1 ≤ K) (hM : M ≤ m) : Tm (fun k => x_simple k 13 N ρ) (Po T n E o M P K σ none) := by
  refine Tm_suc (fun k => by rw [x_simple]) ?_
  refine Tm_ite (fun z => absurd z hB.1) (fun _ => ?_)
  refine Tm_suc (fun k => by rw [x_simple]) ?_
  refine Tm_ite (fun z => absurd z hB.1) (fun _ => ?_)
  exact sm15b hB hF hm hK hM
/-- after the word: a fault -/
theorem sm4b {m w K : Nat} {σ ρ : MS} {N : Nat → Int32} (hB : Bb m ρ) (hF : FrM M P E.2.2.2.1 σ ρ) (hN : N 1 = nI w) (hw : w < 60) (hm : m < 70000) (hK : m + 1 ≤ K) (hM : M ≤ m) : Tm (fun k => if (N 1) = 17 then (x_simple k 5 (upd N 2 0) ρ) else (if (N 1) = 18 then (x_simple k 5 (upd N 2 0) ρ) else (x_simple k 8 (upd N 2 0) ρ))) (Po T n E o M P K σ none) := by
  have hN' : upd N 2 0 1 = nI w := by rw [upd_other (by decide)]; exact hN
  generalize upd N 2 0 = N' at hN'
  have b7 : ∀ N2 : Nat → Int32, Tm (fun k => x_simple k 7 N2 ρ) (Po T n E o M P K σ none) := fun N2 => by
    refine Tm_suc (fun k => by rw [x_simple]) ?_
    exact smN hB hF hm hK hM
  have b5 : Tm (fun k => x_simple k 5 N' ρ) (Po T n E o M P K σ none) := by
    refine Tm_suc (fun k => by rw [x_simple]) ?_
    refine Tm_ite (fun _ => b7 _) (fun _ => ?_)
    refine Tm_suc (fun k => by rw [x_simple]) ?_
    exact b7 _
  have b24 : ∀ N2 : Nat → Int32, Tm (fun k => x_simple k 24 N2 ρ) (Po T n E o M P K σ none) := fun N2 => by
    refine Tm_suc (fun k => by rw [x_simple]) ?_
    exact smN hB hF hm hK hM
  have b11 : ∀ N2 : Nat → Int32, Tm (fun k => x_simple k 11 N2 ρ) (Po T n E o M P K σ none) := fun N2 => by
    refine Tm_suc (fun k => by rw [x_simple]) ?_
    exact smN hB hF hm hK hM
  refine Tm_ite (fun _ => b5) (fun _ => Tm_ite (fun _ => b5) (fun _ => ?_))
  refine Tm_suc (fun k => by rw [x_simple]) ?_
  refine Tm_ite (fun _ => ?_) (fun _ => ?_)
  · refine Tm_ite (fun z => absurd z hB.1) (fun _ => ?_)
    refine Tm_suc (fun k => by rw [x_simple]) ?_
    exact b11 _
  refine Tm_suc (fun k => by rw [x_simple]) ?_
  refine Tm_ite (fun _ => ?_) (fun _ => ?_)
  · refine Tm_ite (fun z => absurd z hB.1) (fun _ => ?_)
    exact sm13b hB hF hm hK hM
  refine Tm_suc (fun k => by rw [x_simple]) ?_
  refine Tm_ite (fun _ => ?_) (fun _ => ?_)
  · refine Tm_ob (b_xexp hB.1 _) (fun r hr => ?_)
    subst hr
    exact smN hB hF hm hK hM
  refine Tm_suc (fun k => by rw [x_simple]) ?_
  refine Tm_ite (fun _ => b24 _) (fun _ => ?_)
  refine Tm_suc (fun k => by rw [x_simple]) ?_
  refine Tm_ite (fun _ => b24 _) (fun _ => ?_)
  refine Tm_suc (fun k => by rw [x_simple]) ?_
  exact b24 _
theorem sm_print {f q v K : Nat} {b : BT} {x : Option RT} {σ σ1 : MS} {N' : Nat → Int32} (hG : (if tkK T n q = 6 then gO o (gT T n q (fun q2 => gb (G T n f 0 E (o + 1) q2 v 0 0 0 0 b) (fun r => gb (GPr T n E f (o + 1) r.1 r.2.1 r.2.2.2.1 r.2.2.2.2.1) (fun s => gW T n 7 s.1 (fun q3 => gS13 T n q3 s.2.1 s.2.2.2.2.1.1 (bNode s.2.2.2.2.1 52 (nI r.2.2.2.1) 0 0)))))) else some none) = some x) (hS1 : PS T n E o q v b σ1) (hF1 : FrM M P E.2.2.2.1 σ σ1) (h1 : 1 ≤ M) (hM : M ≤ b.1) (hP : P ≤ b.2.1) (hn : b.1 + (n + 1 - q) + 967 ≤ 70000) (hp : b.2.1 + (n - q) ≤ 70000) (hK : b.1 + (n + 1 - q) + 964 ≤ K) : Tm (fun k => if σ1.1 10 = 0 then (ob (x_isSign k 0 (upd (fun _ => 0) 1 6) σ1) (fun r3 => if r3.1 = 0 then (ob (x_cannot k 0 (fun _ => 0) r3.2) (fun r5 => x_simple k 13 N' r5.2)) else (x_simple k 13 N' r3.2))) else (x_simple k 13 N' σ1)) (Po T n E o M P K σ x) := by
  have hq := PS_q hS1
  have hv := PS_v hS1
  have ho := PS_o hS1
  have hu1 := tkN_b T n q hq.1
  refine Tm_ite (fun _ => ?_) (fun y => absurd (PS_ok hS1) y)
  refine Tm_ob (p_sign hS1 (s := 6) (by decide) (by decide) rfl) (fun r3 hr3 => ?_)
  obtain ⟨u, τ⟩ := r3
  obtain ⟨h3, hr3⟩ := hr3
  have h3 : τ = σ1 := h3
  subst h3
  refine Tm_ite (fun y => ?_) (fun y => ?_)
  · rw [if_neg (fun t => hr3.mpr t y)] at hG
    have hx : x = none := (Option.some.inj hG).symm
    subst hx
    refine Tm_ob (p_cannot (M := M) (P := P) (w := E.2.2.2.1) hS1 _) (fun rc hrc => ?_)
    exact sm13b hrc.1 (FrM_tr hF1 hrc.2) (by omega) (by omega) hM
  have hK6 := hr3.mp y
  rw [if_pos hK6] at hG
  have hu14 := hu1.2.2.2 (by rw [hK6]; decide)
  refine Tm_suc (fun k => by rw [x_simple]) ?_
  refine Tm_ite (fun _ => ?_) (fun y => absurd (PS_ok hS1) y)
  refine Tm_ob (p_open (M := M) (P := P) (w := E.2.2.2.1) hS1 _) (fun r4 hr4 => ?_)
  rcases gO_any hG with ⟨t4, rfl⟩ | ⟨t4, hG⟩
  · rcases hr4.2 with ⟨_, hB⟩ | ⟨y, _⟩
    · refine Tm_suc (fun k => by rw [x_simple]) ?_
      refine Tm_ite (fun z => absurd z hB.1) (fun _ => ?_)
      exact sm15b hB (FrM_tr hF1 hr4.1) (by omega) (by omega) hM
    · omega
  rcases hr4.2 with ⟨y, _⟩ | ⟨_, hS4, _⟩
  · exact absurd y t4
  refine Tm_suc (fun k => by rw [x_simple]) ?_
  refine Tm_ite (fun _ => ?_) (fun y => absurd (PS_ok hS4) y)
  refine Tm_ob (p_take (M := M) (P := P) (w := E.2.2.2.1) hS4 _) (fun r5 hr5 => ?_)
  have hF5 := FrM_tr hF1 (FrM_tr hr4.1 hr5.1)
  rcases gT_any hG with ⟨t5, rfl⟩ | ⟨t5, hG⟩
  · rcases hr5.2 with ⟨_, hB⟩ | ⟨z, _⟩
    · exact sm15b hB hF5 (by omega) (by omega) hM
    · exact absurd t5 z
  rcases hr5.2 with ⟨z, _⟩ | ⟨_, hS5⟩
  · exact absurd z t5
  refine Tm_suc (fun k => by rw [x_simple]) ?_
  rcases gb_any hG with ⟨h7, hy⟩ | ⟨s, h7, hG⟩
  · subst hy
    refine Tm_ob (p_exp (M := M) (P := P) h7 hS5 h1 hM hP (by omega) (by omega)) (fun r2 hr2 => ?_)
    obtain ⟨⟨m1, hm, hmk, hMm⟩, _, hF2⟩ := hr2
    refine Tm_suc (fun k => by rw [x_simple]) ?_
    refine Tm_ite (fun z => absurd z hm.1) (fun _ => ?_)
    exact sm19b hm (FrM_tr hF5 hF2) (by omega) (by omega) hMm
  obtain ⟨⟨a1, a2, a3, a4, a5, a6, a7, a8⟩, a9⟩ := mo_of (M := M) hu1.2.1 hv h7 hM h1 trivial (fun h => h) (fun h => h)
  refine Tm_ob (p_exp (M := M) (P := P) h7 hS5 h1 hM hP (by omega) (by omega)) (fun r2 hr2 => ?_)
  obtain ⟨hS2, hr21, hF2⟩ := hr2
  have hF2 := FrM_tr hF5 hF2
  obtain ⟨y, hy⟩ : ∃ y, GPr T n E f (o + 1) s.1 s.2.1 s.2.2.2.1 s.2.2.2.2.1 = some y := by
    rcases gb_any hG with ⟨h, _⟩ | ⟨t, h, _⟩
    · exact ⟨_, h⟩
    · exact ⟨_, h⟩
  refine print_loop (M := M) (P := P) f _ _ _ _ y hy r2.2 _ _ hS2 h1 (by omega) (by omega) (by omega) (by omega) (by rw [upd_same]; exact hr21) a9.1 a9.2 ?_
  intro ρ N3 k3 hFρ hm
  rw [upd_other (by decide), upd_same] at k3
  have hFρ := FrM_tr hF2 hFρ
  rw [hy] at hG
  cases y with
  | none =>
    obtain ⟨m, j1, j2, j3⟩ := hm
    have hx : x = none := (Option.some.inj hG).symm
    subst hx
    exact sm19b j1 hFρ (by omega) (by omega) j2
  | some t =>
    have hG : gW T n 7 t.1 (fun q3 => gS13 T n q3 t.2.1 t.2.2.2.2.1.1 (bNode t.2.2.2.2.1 52 (nI s.2.2.2.1) 0 0)) = some x := hG
    have hm : PS T n E (o + 1) t.1 t.2.1 t.2.2.2.2.1 ρ := hm
    obtain ⟨⟨b1, b2, b3, b4, b5, b6, b7, b8⟩, b9⟩ := gpr_mo f _ _ _ _ _ t M a2 (by omega) hy (by omega) h1 a9.1 a9.2
    refine Tm_suc (fun k => by rw [x_simple]) ?_
    refine Tm_ob (p_want (M := M) (P := P) (w := E.2.2.2.1) hm (s := 7) (by decide) (by decide) rfl) (fun r6 hr6 => ?_)
    show Tm (fun k => x_simple k 19 N3 (mOpn r6.2 (r6.2.1 13 - 1))) _
    refine Tm_suc (fun k => by rw [x_simple]) ?_
    rcases gW_any hG with ⟨t6, rfl⟩ | ⟨t6, hG⟩
    · rcases hr6.2 with ⟨_, hB⟩ | ⟨y, _⟩
      · exact smN (Bb_opn hB _) (FrM_tr hFρ (FrM_tr hr6.1 (FrM_opn _))) (by omega) (by omega) (by omega)
      · exact absurd y t6
    rcases hr6.2 with ⟨y, _⟩ | ⟨_, hS6⟩
    · exact absurd t6 y
    rw [k3, hr21]
    refine Tm_ob (p_nd (M := M) (P := P) (w := E.2.2.2.1) (PS_clo hS6) (by omega) (by omega)) (fun r hr => ?_)
    exact sm25 hG hr.2.1 (FrM_tr hFρ (FrM_tr hr6.1 (FrM_tr (FrM_opn _) hr.2.2))) (by rw [upd_same]; exact hr.1) (by omega) (by omega) (by rw [bNode_1]; omega) (by rw [bNode_1]; omega)
theorem sm4 {f q1 v w K : Nat} {b : BT} {x : Option RT} {σ σ1 : MS} {N : Nat → Int32} (hG : gSm0 T n f E o w q1 v b = some x) (hN1 : N 1 = nI w) (hw1 : 17 ≤ w) (hw2 : w ≤ 24) (hS1 : PS T n E o q1 v b σ1) (hF1 : FrM M P E.2.2.2.1 σ σ1) (h1 : 1 ≤ M) (hM : M ≤ b.1) (hP : P ≤ b.2.1) (hn : b.1 + (n + 1 - q1) + 967 ≤ 70000) (hp : b.2.1 + (n - q1) ≤ 70000) (hK : b.1 + (n + 1 - q1) + 964 ≤ K) : Tm (fun k => if (N 1) = 17 then (x_simple k 5 (upd N 2 0) σ1) else (if (N 1) = 18 then (x_simple k 5 (upd N 2 0) σ1) else (x_simple k 8 (upd N 2 0) σ1))) (Po T n E o M P K σ x) := by
  have hq1b := PS_q hS1
  have hv := PS_v hS1
  have hu1 := tkN_b T n q1 hq1b.1
  have isN : ∀ {s : Nat}, s < 2147483648 → (N 1 = nI s ↔ w = s) := fun hs => is_n hN1 (by omega) hs
  have hN' : upd N 2 0 1 = nI w := by rw [upd_other (by decide)]; exact hN1
  have isN' : ∀ {s : Nat}, s < 2147483648 → (upd N 2 0 1 = nI s ↔ w = s) := fun hs => is_n hN' (by omega) hs
  generalize upd N 2 0 = N' at hN' isN'
  unfold gSm0 at hG
  -- one node, then ;
  have fin : ∀ (a : Int32) (N2 : Nat → Int32), gS13 T n q1 v b.1 (bNode b a 0 0 0) = some x → Tm (fun k => ob (x_node k 0 (upd (upd (upd (upd (fun _ => 0) 1 a) 2 0) 3 0) 4 0) σ1) (fun r1 => x_simple k 25 (upd N2 2 r1.1) r1.2)) (Po T n E o M P K σ x) := fun a N2 hG => by
    refine Tm_ob (p_nd (M := M) (P := P) (w := E.2.2.2.1) hS1 (by omega) hM) (fun r hr => ?_)
    exact sm25 hG hr.2.1 (FrM_tr hF1 hr.2.2) (by rw [upd_same]; exact hr.1) hM (by omega) (by rw [bNode_1]; omega) (by rw [bNode_1]; omega)
  -- an exp, a node, then ;
  have fx : ∀ (f' : Nat) (a : Int32) (N2 : Nat → Int32) (g : Int32 → Nat → Int32), gb (G T n f 0 E o q1 v 0 0 0 0 b) (fun r => gS13 T n r.1 r.2.1 r.2.2.2.2.1.1 (bNode r.2.2.2.2.1 a (nI r.2.2.2.1) 0 0)) = some x → Tm (fun k => ob (x_exp k 0 (fun _ => 0) σ1) (fun r2 => ob (x_node k 0 (upd (upd (upd (upd (fun _ => 0) 1 a) 2 r2.1) 3 0) 4 0) r2.2) (fun r3 => x_simple k 25 (upd (g r2.1) 2 r3.1) r3.2))) (Po T n E o M P K σ x) := fun f' a N2 g hG => by
    rcases gb_any hG with ⟨h7, hy⟩ | ⟨s, h7, hG⟩
    · subst hy
      refine Tm_ob (p_exp (M := M) (P := P) h7 hS1 h1 hM hP (by omega) (by omega)) (fun r2 hr2 => ?_)
      obtain ⟨⟨m1, hm, hmk, hMm⟩, _, hF2⟩ := hr2
      exact smN hm (FrM_tr hF1 hF2) (by omega) (by omega) hMm
    obtain ⟨⟨a1, a2, a3, a4, a5, a6, a7, a8⟩, a9⟩ := mo_of (M := M) hq1b.1 hv h7 hM h1 trivial (fun h => h) (fun h => h)
    refine Tm_ob (p_exp (M := M) (P := P) h7 hS1 h1 hM hP (by omega) (by omega)) (fun r2 hr2 => ?_)
    obtain ⟨hS2, hr21, hF2⟩ := hr2
    rw [hr21]
    refine Tm_ob (p_nd (M := M) (P := P) (w := E.2.2.2.1) hS2 (by omega) (by omega)) (fun r hr => ?_)
    exact sm25 hG hr.2.1 (FrM_tr hF1 (FrM_tr hF2 hr.2.2)) (by rw [upd_same]; exact hr.1) (by omega) (by omega) (by rw [bNode_1]; omega) (by rw [bNode_1]; omega)
  have last : ¬ w = 19 → ¬ w = 20 → ¬ w = 21 → gS13 T n q1 v b.1 (bNode b (nI (w + 32)) 0 0 0) = some x := fun z1 z2 z3 => by
    rw [if_neg z1, if_neg z2, if_neg z3] at hG; exact hG
  refine Tm_ite (fun z => ?_) (fun z17 => ?_)
  · have z := (isN (s := 17) (by decide)).mp z
    refine Tm_suc (fun k => by rw [x_simple]) ?_
    refine Tm_ite (fun _ => ?_) (fun y => absurd ((isN' (s := 17) (by decide)).mpr z) y)
    refine Tm_suc (fun k => by rw [x_simple]) ?_
    rw [upd_same]
    exact fin _ _ (by have := last (by omega) (by omega) (by omega); rw [z] at this; exact this)
  have z17 : ¬ w = 17 := fun y => z17 ((isN (s := 17) (by decide)).mpr y)
  refine Tm_ite (fun z => ?_) (fun z18 => ?_)
  · have z := (isN (s := 18) (by decide)).mp z
    refine Tm_suc (fun k => by rw [x_simple]) ?_
    refine Tm_ite (fun y => absurd ((isN' (s := 17) (by decide)).mp y) z17) (fun _ => ?_)
    refine Tm_suc (fun k => by rw [x_simple]) ?_
    refine Tm_suc (fun k => by rw [x_simple]) ?_
    rw [upd_same]
    exact fin _ _ (by have := last (by omega) (by omega) (by omega); rw [z] at this; exact this)
  have z18 : ¬ w = 18 := fun y => z18 ((isN (s := 18) (by decide)).mpr y)
  refine Tm_suc (fun k => by rw [x_simple]) ?_
  refine Tm_ite (fun z => ?_) (fun z19 => ?_)
  · have z := (isN' (s := 19) (by decide)).mp z
    rw [if_pos z] at hG
    refine Tm_ite (fun _ => ?_) (fun y => absurd (PS_ok hS1) y)
    refine Tm_ob (p_sign hS1 (s := 13) (by decide) (by decide) rfl) (fun r3 hr3 => ?_)
    obtain ⟨u, τ⟩ := r3
    obtain ⟨h3, hr3⟩ := hr3
    have h3 : τ = σ1 := h3
    subst h3
    refine Tm_ite (fun y => ?_) (fun y => ?_)
    · rw [if_neg (fun t => hr3.mpr t y)] at hG
      refine Tm_suc (fun k => by rw [x_simple]) ?_
      rcases gb_any hG with ⟨h7, hy⟩ | ⟨s, h7, hG⟩
      · subst hy
        refine Tm_ob (p_exp (M := M) (P := P) h7 hS1 h1 hM hP (by omega) (by omega)) (fun r2 hr2 => ?_)
        obtain ⟨⟨m1, hm, hmk, hMm⟩, _, hF2⟩ := hr2
        refine Tm_suc (fun k => by rw [x_simple]) ?_
        exact smN hm (FrM_tr hF1 hF2) (by omega) (by omega) hMm
      obtain ⟨⟨a1, a2, a3, a4, a5, a6, a7, a8⟩, a9⟩ := mo_of (M := M) hq1b.1 hv h7 hM h1 trivial (fun h => h) (fun h => h)
      refine Tm_ob (p_exp (M := M) (P := P) h7 hS1 h1 hM hP (by omega) (by omega)) (fun r2 hr2 => ?_)
      obtain ⟨hS2, hr21, hF2⟩ := hr2
      refine Tm_suc (fun k => by rw [x_simple]) ?_
      rw [upd_same, hr21]
      refine Tm_ob (p_nd (M := M) (P := P) (w := E.2.2.2.1) hS2 (by omega) (by omega)) (fun r hr => ?_)
      exact sm25 hG hr.2.1 (FrM_tr hF1 (FrM_tr hF2 hr.2.2)) (by rw [upd_same]; exact hr.1) (by omega) (by omega) (by rw [bNode_1]; omega) (by rw [bNode_1]; omega)
    · rw [if_pos (hr3.mp y)] at hG
      refine Tm_suc (fun k => by rw [x_simple]) ?_
      refine Tm_suc (fun k => by rw [x_simple]) ?_
      rw [upd_same]
      refine Tm_ob (p_nd (M := M) (P := P) (w := E.2.2.2.1) hS1 (by omega) hM) (fun r hr => ?_)
      exact sm25 hG hr.2.1 (FrM_tr hF1 hr.2.2) (by rw [upd_same]; exact hr.1) hM (by omega) (by rw [bNode_1]; omega) (by rw [bNode_1]; omega)
  have z19 : ¬ w = 19 := fun y => z19 ((isN' (s := 19) (by decide)).mpr y)
  rw [if_neg z19] at hG
  refine Tm_suc (fun k => by rw [x_simple]) ?_
  refine Tm_ite (fun z => ?_) (fun z20 => ?_)
  · have z := (isN' (s := 20) (by decide)).mp z
    rw [if_pos z] at hG
    exact sm_print hG hS1 hF1 h1 hM hP (by omega) (by omega) (by omega)
  have z20 : ¬ w = 20 := fun y => z20 ((isN' (s := 20) (by decide)).mpr y)
  rw [if_neg z20] at hG
  refine Tm_suc (fun k => by rw [x_simple]) ?_
  refine Tm_ite (fun z => ?_) (fun z21 => ?_)
  · have z := (isN' (s := 21) (by decide)).mp z
    rw [if_pos z] at hG
    exact fx 0 53 N' (fun y => upd N' 3 y) hG
  have z21 : ¬ w = 21 := fun y => z21 ((isN' (s := 21) (by decide)).mpr y)
  refine Tm_suc (fun k => by rw [x_simple]) ?_
  refine Tm_ite (fun z => ?_) (fun z22 => ?_)
  · have z := (isN' (s := 22) (by decide)).mp z
    refine Tm_suc (fun k => by rw [x_simple]) ?_
    rw [upd_same]
    exact fin _ _ (by have := last (by omega) (by omega) (by omega); rw [z] at this; exact this)
  have z22 : ¬ w = 22 := fun y => z22 ((isN' (s := 22) (by decide)).mpr y)
  refine Tm_suc (fun k => by rw [x_simple]) ?_
  refine Tm_ite (fun z => ?_) (fun z23 => ?_)
  · have z := (isN' (s := 23) (by decide)).mp z
    refine Tm_suc (fun k => by rw [x_simple]) ?_
    rw [upd_same]
    exact fin _ _ (by have := last (by omega) (by omega) (by omega); rw [z] at this; exact this)
  have z23 : ¬ w = 23 := fun y => z23 ((isN' (s := 23) (by decide)).mpr y)
  refine Tm_suc (fun k => by rw [x_simple]) ?_
  refine Tm_suc (fun k => by rw [x_simple]) ?_
  rw [upd_same]
  have z24 : w = 24 := by omega
  exact fin _ _ (by have := last (by omega) (by omega) (by omega); rw [z24] at this; exact this)
theorem p_simple {f lp q v : Nat} {b : BT} {x : Option RT} {σ : MS} {L : Nat → Int32} (hG : gSm T n f lp E o q v b = some x) (hK1 : 49 ≤ tkK T n q) (hK2 : tkK T n q ≤ 56) (hlp : σ.1 45 = 0 ↔ lp = 0) (hS : PS T n E o q v b σ) (h1 : 1 ≤ M) (hM : M ≤ b.1) (hP : P ≤ b.2.1) (hn : b.1 + (n + 1 - q) + 967 ≤ 70000) (hp : b.2.1 + (n - q) ≤ 70000) : Tm (fun k => x_simple k 0 L σ) (Po T n E o M P (b.1 + (n + 1 - q) + 964) σ x) := by
  have hq := PS_q hS
  have hv := PS_v hS
  have ho := PS_o hS
  have hu := tkN_b T n q hq.1
  have hu4 := hu.2.2.2 (by omega)
  have h37 : σ.1 37 = nI E.2.2.2.1 := hS.2.2.2.1.1
  have hw42 : E.2.2.2.1 ≤ 42 := hS.2.2.2.1.2.1
  have h7 : σ.1 7 = nI (tkK T n q - 32) := (cur_what (PS_cur hS)).2.1 (by omega)
  unfold gSm at hG
  generalize hwd : tkK T n q - 32 = w at hG h7
  have hw1 : 17 ≤ w := by omega
  have hw2 : w ≤ 24 := by omega
  have hN1 : upd L 1 (σ.1 7) 1 = nI w := by rw [upd_same]; exact h7
  generalize hNN : upd L 1 (σ.1 7) = N at hN1
  have isw : ∀ {s : Nat}, s < 2147483648 → (σ.1 7 = nI s ↔ w = s) := fun hs => is_n h7 (by omega) hs
  have isN : ∀ {s : Nat}, s < 2147483648 → (N 1 = nI s ↔ w = s) := fun hs => is_n hN1 (by omega) hs
  have flt : (((tkK T n q = 49 ∨ tkK T n q = 50) ∧ lp = 0) ∨ (tkK T n q = 51 ∧ (E.2.2.2.1 = 0 ∨ 41 < E.2.2.2.1))) → Tm (fun k => x_simple k 3 N σ) (Po T n E o M P (b.1 + (n + 1 - q) + 964) σ x) := fun hc => by
    rw [if_pos hc] at hG
    have hx : x = none := (Option.some.inj hG).symm
    subst hx
    refine Tm_suc (fun k => by rw [x_simple]) ?_
    refine Tm_ob (p_fault (M := M) (P := P) (w := E.2.2.2.1) hS _) (fun r hr => ?_)
    exact Tm_some ⟨⟨_, hr.1, by omega, hM⟩, ⟨0, rfl, by decide, Or.inl rfl⟩, hr.2⟩
  have four : ¬ (((tkK T n q = 49 ∨ tkK T n q = 50) ∧ lp = 0) ∨ (tkK T n q = 51 ∧ (E.2.2.2.1 = 0 ∨ 41 < E.2.2.2.1))) → Tm (fun k => x_simple k 4 N σ) (Po T n E o M P (b.1 + (n + 1 - q) + 964) σ x) := fun hc => by
    rw [if_neg hc] at hG
    refine Tm_suc (fun k => by rw [x_simple]) ?_
    refine Tm_ob (p_take (M := M) (P := P) (w := E.2.2.2.1) hS _) (fun r1 hr1 => ?_)
    rcases gT_any hG with ⟨t1, rfl⟩ | ⟨t1, hG⟩
    · rcases hr1.2 with ⟨_, hB⟩ | ⟨z, _⟩
      · exact sm4b hB hr1.1 hN1 (by omega) (by omega) (by omega) hM
      · exact absurd t1 z
    rcases hr1.2 with ⟨z, _⟩ | ⟨_, hS1⟩
    · exact absurd z t1
    exact sm4 hG hN1 hw1 hw2 hS1 hr1.1 h1 hM hP (by omega) (by omega) (by omega)
  have two : ((w = 17 ∨ w = 18) → ¬ lp = 0) → Tm (fun k => x_simple k 2 N σ) (Po T n E o M P (b.1 + (n + 1 - q) + 964) σ x) := fun hlo => by
    refine Tm_suc (fun k => by rw [x_simple]) ?_
    refine Tm_ite (fun z => ?_) (fun z => ?_)
    · have z := (isN (s := 19) (by decide)).mp z
      rw [h37]
      refine Tm_ite (c := nI E.2.2.2.1 = 0) (fun y => flt (Or.inr ⟨by omega, Or.inl ((n_eq0 (by omega)).mp y)⟩)) (fun y => ?_)
      rw [n_eq0 (by omega)] at y
      have n41 : (41 : Int32) = nI 41 := rfl
      rw [n41]
      refine Tm_ite (fun t => ?_) (fun t => ?_)
      · rw [n_le (by omega) (by omega)] at t
        exact four (fun c => c.elim (fun c => hlo (c.1.imp (fun a => by omega) (fun a => by omega)) c.2) (fun c => c.2.elim y (fun a => absurd t (Nat.not_le.mpr a))))
      · rw [n_le (by omega) (by omega)] at t
        exact flt (Or.inr ⟨by omega, Or.inr (Nat.not_le.mp t)⟩)
    · have z : ¬ w = 19 := fun y => z ((isN (s := 19) (by decide)).mpr y)
      exact four (fun c => c.elim (fun c => hlo (c.1.imp (fun a => by omega) (fun a => by omega)) c.2) (fun c => z (by omega)))
  have one : (w = 17 ∨ w = 18) → Tm (fun k => x_simple k 1 N σ) (Po T n E o M P (b.1 + (n + 1 - q) + 964) σ x) := fun hlo => by
    refine Tm_suc (fun k => by rw [x_simple]) ?_
    refine Tm_ite (fun z => flt (Or.inl ⟨hlo.imp (fun a => by omega) (fun a => by omega), hlp.mp z⟩)) (fun z => two (fun _ y => z (hlp.mpr y)))
  refine Tm_suc (fun k => by rw [x_simple]) ?_
  rw [hNN]
  refine Tm_ite (fun z => one (Or.inl ((isw (s := 17) (by decide)).mp z))) (fun z => ?_)
  refine Tm_ite (fun z => one (Or.inr ((isw (s := 18) (by decide)).mp z))) (fun z2 => ?_)
  refine two (fun y => ?_)
  rcases y with y | y
  · exact absurd ((isw (s := 17) (by decide)).mpr y) z
  · exact absurd ((isw (s := 18) (by decide)).mpr y) z2
end SIM
