/-! Brackets, quantifiers. -/
theorem dropR_len (E : En) : dropR E E.2.2.1.length = E := by
  unfold dropR
  rw [Nat.sub_self, List.drop_zero]
section BRK
variable {T : Nat → Int32} {n o M P d : Nat} {E : En}
theorem PS_sn {q v : Nat} {b : BT} {σ : MS} {ns : List Nm} (h : PS T n (seeN E ns) o q v b σ) : PS T n E o q v b (upd σ.1 38 (nI E.2.1.length), σ.2.1, σ.2.2) := by
  obtain ⟨hT, hO, hB, hV, ⟨⟨g1, g2, g3⟩, ⟨g4, g5, g6⟩, ⟨g7, g8, g9⟩⟩, hF⟩ := h
  have g2 : (ns ++ E.2.1).length ≤ v := g2
  have r : ∀ j, j ≠ 38 → ((upd σ.1 38 (nI E.2.1.length), σ.2.1, σ.2.2) : MS).1 j = σ.1 j := fun j hj => upd_other hj
  refine ⟨PT_c (fun j _ _ => r j (by omega)) rfl rfl hT, ⟨(r 13 (by decide)).trans hO.1, hO.2⟩, PB_c (r 22 (by decide)) (r 24 (by decide)) (fun _ _ => rfl) hB, PV_c (r 37 (by decide)) rfl rfl hV, ⟨⟨(upd_same : upd σ.1 38 (nI E.2.1.length) 38 = _), ?_, rows_suf ns g3⟩, ⟨(r 52 (by decide)).trans g4, g5, g6⟩, ⟨(r 25 (by decide)).trans g7, g8, g9⟩⟩, PF_c (E := E) (r 43 (by decide)) (r 42 (by decide)) rfl hF⟩
  rw [List.length_append] at g2
  omega
theorem Bb_sn {m : Nat} {σ : MS} (h : Bb m σ) (x : Int32) : Bb m (upd σ.1 38 x, σ.2.1, σ.2.2) := ⟨by show ¬ upd σ.1 38 x 10 = 0; rw [upd_other (by decide)]; exact h.1, by show upd σ.1 38 x 22 = _; rw [upd_other (by decide)]; exact h.2⟩
theorem FrM_sn {w : Nat} {σ : MS} (x : Int32) : FrM M P w σ (upd σ.1 38 x, σ.2.1, σ.2.2) := FrM_sc (fun j hj => upd_other (by omega))
/-- a row of iters, from its beginning -/
theorem m_iters {f q v : Nat} {b : BT} {x : Option RT} {σ : MS} {L : Nat → Int32} {g : Nat} (H17 : S17 T n f) (hG : G T n f 17 E o q v 0 0 E.2.2.1.length g b = some x) (hS : PS T n E o q v b σ) (h1 : 1 ≤ M) (hM : M ≤ b.1) (hP : P ≤ b.2.1) (hn : b.1 + (n + 1 - q) + 3 * (d + 2) ≤ 70000) (hp : b.2.1 + (n - q) ≤ 70000) (hdd : 12 * (21 - o) + 8 ≤ d) (hg : g ≤ 1) (hL : L 1 = nI g) : Tm (fun k => x_GE k d 4 0 L σ) (fun r => match x with
    | none => (∃ m, Bb m r.2 ∧ m ≤ b.1 + (n + 1 - q) + 3 * (d + 1) ∧ M ≤ m) ∧ FrM M P E.2.2.2.1 σ r.2
    | some t => PS T n (seeN E t.2.2.2.2.2) o t.1 t.2.1 t.2.2.2.2.1 r.2 ∧ r.1 = nI t.2.2.2.1 ∧ FrM M P E.2.2.2.1 σ r.2) := by
  have h52 : σ.1 52 = nI E.2.2.1.length := hS.2.2.2.2.1.2.1.1
  refine Tm_suc (fun k => by rw [xE_4]) ?_
  refine Tm_mono (H17 _ _ _ _ _ _ _ _ _ x hG σ (upd (upd (upd (upd L 2 (σ.1 52)) 3 (-1)) 4 (-1)) 5 1) d M P hS h1 hM hP hn hp hdd (Nat.le_refl _) hg ?_ ?_ ?_ (Or.inl rfl) ?_) (fun r hr => ?_)
  · rw [upd_other (by decide), upd_other (by decide), upd_other (by decide), upd_other (by decide)]; exact hL
  · rw [upd_other (by decide), upd_other (by decide), upd_other (by decide), upd_same]; exact h52
  · rw [upd_other (by decide), upd_other (by decide), upd_same]; rfl
  · rw [upd_same]; decide
  cases x with
  | none => exact hr
  | some t =>
    obtain ⟨k1, k2, k3⟩ := hr
    rw [dropR_len] at k1
    exact ⟨k1, k2, k3⟩
/-- after a fault: nothing is told -/
theorem b_iters {σ : MS} {L : Nat → Int32} (h : ¬ σ.1 10 = 0) : Tm (fun k => x_GE k d 4 0 L σ) (fun r => r.2 = (upd σ.1 52 (σ.1 52), σ.2.1, σ.2.2) ∧ r.1 = -1) := by
  refine Tm_suc (fun k => by rw [xE_4]) ?_
  show Tm (fun k => x_GE k d 4 1 (upd (upd (upd (upd L 2 (σ.1 52)) 3 (-1)) 4 (-1)) 5 1) σ) _
  have e2 : upd (upd (upd (upd L 2 (σ.1 52)) 3 (-1)) 4 (-1)) 5 1 2 = σ.1 52 := by rw [upd_other (by decide), upd_other (by decide), upd_other (by decide), upd_same]
  have e3 : upd (upd (upd (upd L 2 (σ.1 52)) 3 (-1)) 4 (-1)) 5 1 3 = -1 := by rw [upd_other (by decide), upd_other (by decide), upd_same]
  have e5 : ¬ upd (upd (upd (upd L 2 (σ.1 52)) 3 (-1)) 4 (-1)) 5 1 5 = 0 := by rw [upd_same]; decide
  generalize upd (upd (upd (upd L 2 (σ.1 52)) 3 (-1)) 4 (-1)) 5 1 = N at e2 e3 e5
  refine Tm_suc (fun k => by rw [xE_4]) ?_
  refine Tm_ite (c := N 5 = 0) (fun z => absurd z e5) (fun _ => ?_)
  refine Tm_ite (c := σ.1 10 = 0) (fun z => absurd z h) (fun _ => ?_)
  refine Tm_suc (fun k => by rw [xE_4]) ?_
  show Tm (fun k => x_GE k d 4 14 N (upd σ.1 52 (N 2), σ.2.1, σ.2.2)) _
  refine Tm_suc (fun k => by rw [xE_4]) ?_
  exact Tm_some ⟨by rw [e2], e3⟩
/-- exists, forall -/
theorem m_quant {f q v : Nat} {b : BT} {x : Option RT} {σ : MS} {L : Nat → Int32} {ex : Nat} (H0 : S0 T n f) (H17 : S17 T n f)
    (hG : gO o (gT T n q (fun q1 => gb (G T n f 17 E (o + 1) q1 v 0 0 E.2.2.1.length 0 b) (fun r => gW T n 15 r.1 (fun q2 => gb (G T n f 0 (seeN E r.2.2.2.2.2) (o + 1) q2 r.2.1 0 0 0 0 r.2.2.2.2.1) (fun s => some (some (s.1, s.2.1, 0, s.2.2.2.2.1.1, bNode s.2.2.2.2.1 14 (nI ex) (hd r.2.2.2.1) (nI s.2.2.2.1), []))))))) = some x)
    (hK : ¬ tkK T n q = 25) (hS : PS T n E o q v b σ) (h1 : 1 ≤ M) (hM : M ≤ b.1) (hP : P ≤ b.2.1) (hn : b.1 + (n + 1 - q) + 3 * (d + 3) ≤ 70000) (hp : b.2.1 + (n - q) ≤ 70000) (hdd : 12 * (21 - o) + 1 ≤ d + 1) (hL : L 1 = nI ex) : Tm (fun k => x_GE k (d + 1) 12 0 L σ) (Po T n E o M P (b.1 + (n + 1 - q) + 3 * (d + 2)) σ x) := by
  have hq := PS_q hS
  have hv := PS_v hS
  have ho := PS_o hS
  have hu := tkN_b T n q hq.1
  have hu4 := hu.2.2.2 hK
  have b2 : ∀ (ρ : MS) (m : Nat) (N : Nat → Int32), Bb m ρ → M ≤ m → m + 1 ≤ b.1 + (n + 1 - q) + 3 * (d + 2) → FrM M P E.2.2.2.1 σ ρ → Tm (fun k => x_GE k (d + 1) 12 2 N ρ) (Po T n E o M P (b.1 + (n + 1 - q) + 3 * (d + 2)) σ none) := fun ρ m N hB hMm hm hF => by
    refine Tm_suc (fun k => by rw [xE_12]) ?_
    show Tm (fun k => x_GE k (d + 1) 12 3 N (mOpn ρ (ρ.1 13 - 1))) _
    refine Tm_suc (fun k => by rw [xE_12]) ?_
    refine Tm_ob (b_node (M := M) (P := P) (w := E.2.2.2.1) (Bb_opn hB _) (by omega) hMm _) (fun r8 hr8 => ?_)
    exact Tm_some ⟨⟨_, hr8.2.1, hm, by omega⟩, ⟨_, hr8.1, by omega, Or.inr hMm⟩, FrM_tr hF (FrM_tr (FrM_opn _) hr8.2.2)⟩
  -- from want on, behind a fault
  have bw : ∀ (ρ : MS) (m : Nat) (N : Nat → Int32) (y y38 : Int32), Bb m ρ → M ≤ m → m + 1 ≤ b.1 + (n + 1 - q) + 3 * (d + 2) → FrM M P E.2.2.2.1 σ ρ → Tm (fun k => ob (x_want k 0 (upd (fun _ => 0) 1 15) ρ) (fun r2 => ob (x_GE k d 3 0 (fun _ => 0) r2.2) (fun r3 => x_GE k (d + 1) 12 2 (upd (upd (upd N 2 y38) 3 y) 4 r3.1) (upd r3.2.1 38 y38, r3.2.2.1, r3.2.2.2)))) (Po T n E o M P (b.1 + (n + 1 - q) + 3 * (d + 2)) σ none) := fun ρ m N y y38 hB hMm hm hF => by
    refine Tm_ob (b_want hB.1 _) (fun r1 hr1 => ?_)
    obtain ⟨u, τ⟩ := r1
    have hr1 : τ = ρ := hr1
    subst hr1
    obtain ⟨d', hd'⟩ : ∃ d', d = d' + 7 := ⟨d - 7, by omega⟩
    refine Tm_ob (by rw [hd']; exact b_exp hB.1) (fun r7 hr7 => ?_)
    subst hr7
    exact b2 _ m _ (Bb_sn hB _) hMm hm (FrM_tr hF (FrM_sn _))
  have b1 : ∀ (ρ : MS) (N : Nat → Int32), Bb b.1 ρ → FrM M P E.2.2.2.1 σ ρ → Tm (fun k => x_GE k (d + 1) 12 1 N ρ) (Po T n E o M P (b.1 + (n + 1 - q) + 3 * (d + 2)) σ none) := fun ρ N hB hF => by
    refine Tm_suc (fun k => by rw [xE_12]) ?_
    show Tm (fun k => ob (x_GE k d 4 0 (upd (fun _ => 0) 1 0) ρ) (fun r1 => ob (x_want k 0 (upd (fun _ => 0) 1 15) r1.2) (fun r2 => ob (x_GE k d 3 0 (fun _ => 0) r2.2) (fun r3 => x_GE k (d + 1) 12 2 (upd (upd (upd N 2 (ρ.1 38)) 3 r1.1) 4 r3.1) (upd r3.2.1 38 (ρ.1 38), r3.2.2.1, r3.2.2.2))))) _
    refine Tm_ob (b_iters hB.1) (fun r1 hr1 => ?_)
    obtain ⟨hr1, hr1b⟩ := hr1
    exact bw r1.2 b.1 N _ _ ⟨by rw [hr1]; show ¬ upd ρ.1 52 (ρ.1 52) 10 = 0; rw [upd_other (by decide)]; exact hB.1, by rw [hr1]; show upd ρ.1 52 (ρ.1 52) 22 = _; rw [upd_other (by decide)]; exact hB.2⟩ hM (by omega) (FrM_tr hF (by rw [hr1]; exact FrM_sc (fun j hj => upd_other (by omega))))
  refine Tm_suc (fun k => by rw [xE_12]) ?_
  refine Tm_ob (p_open (M := M) (P := P) (w := E.2.2.2.1) hS _) (fun r1 hr1 => ?_)
  rcases gO_any hG with ⟨o0, rfl⟩ | ⟨o0, hG⟩
  · rcases hr1.2 with ⟨_, hB⟩ | ⟨y, _⟩
    · exact Tm_ite (c := r1.2.1 10 = 0) (fun c => absurd c hB.1) (fun _ => b1 r1.2 _ hB hr1.1)
    · omega
  rcases hr1.2 with ⟨y, _⟩ | ⟨ho2, hS1, h13⟩
  · exact absurd y o0
  refine Tm_ite (c := r1.2.1 10 = 0) (fun _ => ?_) (fun c => absurd (PS_ok hS1) c)
  refine Tm_ob (p_take (M := M) (P := P) (w := E.2.2.2.1) hS1 _) (fun r3 hr3 => ?_)
  have hF3 := FrM_tr hr1.1 hr3.1
  rcases gT_any hG with ⟨t3, rfl⟩ | ⟨t3, hG⟩
  · rcases hr3.2 with ⟨_, hB⟩ | ⟨y, _⟩
    · exact b1 r3.2 _ hB hF3
    · exact absurd t3 y
  rcases hr3.2 with ⟨y, _⟩ | ⟨_, hS3⟩
  · exact absurd y t3
  have h38 : r3.2.1 38 = nI E.2.1.length := hS3.2.2.2.2.1.1.1
  refine Tm_suc (fun k => by rw [xE_12]) ?_
  show Tm (fun k => ob (x_GE k d 4 0 (upd (fun _ => 0) 1 0) r3.2) (fun r1 => ob (x_want k 0 (upd (fun _ => 0) 1 15) r1.2) (fun r2 => ob (x_GE k d 3 0 (fun _ => 0) r2.2) (fun r4 => x_GE k (d + 1) 12 2 (upd (upd (upd L 2 (r3.2.1 38)) 3 r1.1) 4 r4.1) (upd r4.2.1 38 (r3.2.1 38), r4.2.2.1, r4.2.2.2))))) _
  rw [h38]
  rcases gb_any hG with ⟨h7, rfl⟩ | ⟨s, h7, hG⟩
  · refine Tm_ob (m_iters (M := M) (P := P) H17 h7 hS3 h1 hM hP (by omega) (by omega) (by omega) (by decide) rfl) (fun r4 hr4 => ?_)
    obtain ⟨⟨m, k1, k2, k3⟩, k4⟩ := hr4
    exact bw r4.2 m L _ _ k1 k3 (by omega) (FrM_tr hF3 k4)
  obtain ⟨x1, x2⟩ := g_mono T n f 17 _ _ _ _ _ _ _ _ _ s hu.2.1 hv h7 M hM h1 (Or.inl rfl)
  obtain ⟨a1, a2, a3, a4, a5, a6, a7, a8⟩ := (x1 : Mo n _ _ _ s)
  have a9 : M ≤ s.2.2.2.1 ∧ s.2.2.2.1 < s.2.2.2.2.1.1 := x2
  refine Tm_ob (m_iters (M := M) (P := P) H17 h7 hS3 h1 hM hP (by omega) (by omega) (by omega) (by decide) rfl) (fun r4 hr4 => ?_)
  obtain ⟨hS4, hr41, hF4⟩ := hr4
  have hv4 := PS_v hS4
  have hF4 : FrM M P E.2.2.2.1 σ r4.2 := FrM_tr hF3 hF4
  have hws := tkN_b T n s.1 a2
  refine Tm_ob (p_want (M := M) (P := P) (w := E.2.2.2.1) hS4 (s := 15) (by decide) (by decide) rfl) (fun r5 hr5 => ?_)
  rcases gW_any hG with ⟨t5, rfl⟩ | ⟨t5, hG⟩
  · rcases hr5.2 with ⟨_, hB⟩ | ⟨y, _⟩
    · obtain ⟨d', hd'⟩ : ∃ d', d = d' + 7 := ⟨d - 7, by omega⟩
      refine Tm_ob (by rw [hd']; exact b_exp hB.1) (fun r7 hr7 => ?_)
      subst hr7
      exact b2 _ _ _ (Bb_sn hB _) (by omega) (by omega) (FrM_tr hF4 (FrM_tr hr5.1 (FrM_sn _)))
    · exact absurd y t5
  rcases hr5.2 with ⟨y, _⟩ | ⟨_, hS5⟩
  · exact absurd t5 y
  have hws4 := hws.2.2.2 (by rw [t5.1]; decide)
  rcases gb_any hG with ⟨h9, rfl⟩ | ⟨s9, h9, hG⟩
  · refine Tm_ob (H0 _ _ _ _ _ _ _ _ h9 r5.2 _ d M P hS5 h1 (by omega) (by omega) (by omega) (by omega) (by omega) trivial) (fun rx hrx => ?_)
    obtain ⟨⟨m1, hm, hmk, hMm⟩, _, hFx⟩ := hrx
    exact b2 _ m1 _ (Bb_sn hm _) hMm (by omega) (FrM_tr hF4 (FrM_tr hr5.1 (FrM_tr hFx (FrM_sn _))))
  obtain ⟨⟨f1, f2, f3, f4, f5, f6, f7, f8⟩, f9⟩ := mo_of (M := M) hws.2.1 hv4 h9 (by omega) h1 trivial (fun h => h) (fun h => h)
  refine Tm_ob (H0 _ _ _ _ _ _ _ _ h9 r5.2 _ d M P hS5 h1 (by omega) (by omega) (by omega) (by omega) (by omega) trivial) (fun rx hrx => ?_)
  obtain ⟨hSx, hrx1, hFx⟩ := hrx
  have hSy := PS_sn hSx
  refine Tm_suc (fun k => by rw [xE_12]) ?_
  show Tm (fun k => x_GE k (d + 1) 12 3 _ (mOpn (upd rx.2.1 38 (nI E.2.1.length), rx.2.2.1, rx.2.2.2) (_ - 1))) _
  refine Tm_suc (fun k => by rw [xE_12]) ?_
  refine Tm_ob (p_node (M := M) (P := P) (w := E.2.2.2.1) (PS_clo hSy) (by omega) (by omega) _) (fun r8 hr8 => ?_)
  obtain ⟨hr81, hS8, hF8⟩ := hr8
  cases hG
  refine Tm_some ⟨?_, hr81, FrM_tr hF4 (FrM_tr hr5.1 (FrM_tr hFx (FrM_tr (FrM_sn _) (FrM_tr (FrM_opn _) hF8))))⟩
  have w2 : (upd (upd (upd (upd (fun _ => (0 : Int32)) 1 14) 2 (upd (upd (upd L 2 (nI E.2.1.length)) 3 r4.1) 4 rx.1 1)) 3 (upd (upd (upd L 2 (nI E.2.1.length)) 3 r4.1) 4 rx.1 3)) 4 (upd (upd (upd L 2 (nI E.2.1.length)) 3 r4.1) 4 rx.1 4)) 2 = nI ex := by
    rw [upd_other (by decide), upd_other (by decide), upd_same, upd_other (by decide), upd_other (by decide), upd_other (by decide)]; exact hL
  have w3 : (upd (upd (upd (upd (fun _ => (0 : Int32)) 1 14) 2 (upd (upd (upd L 2 (nI E.2.1.length)) 3 r4.1) 4 rx.1 1)) 3 (upd (upd (upd L 2 (nI E.2.1.length)) 3 r4.1) 4 rx.1 3)) 4 (upd (upd (upd L 2 (nI E.2.1.length)) 3 r4.1) 4 rx.1 4)) 3 = hd s.2.2.2.1 := by
    rw [upd_other (by decide), upd_same, upd_other (by decide), upd_same, hr41, hd_pos (by omega)]
  have w4 : (upd (upd (upd (upd (fun _ => (0 : Int32)) 1 14) 2 (upd (upd (upd L 2 (nI E.2.1.length)) 3 r4.1) 4 rx.1 1)) 3 (upd (upd (upd L 2 (nI E.2.1.length)) 3 r4.1) 4 rx.1 3)) 4 (upd (upd (upd L 2 (nI E.2.1.length)) 3 r4.1) 4 rx.1 4)) 4 = nI s9.2.2.2.1 := by
    rw [upd_same, upd_same]; exact hrx1
  rw [w2, w3, w4] at hS8
  exact hS8
end BRK
