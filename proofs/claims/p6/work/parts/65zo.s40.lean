/-! Iters. -/
def dropR (E : En) (c : Nat) : En := (E.1, E.2.1, E.2.2.1.drop (E.2.2.1.length - c), E.2.2.2)
def PoI (T : Nat → Int32) (n : Nat) (E : En) (c o M P k : Nat) (σ0 : MS) : Option RT → Int32 × MS → Prop
  | none, r => (∃ m, Bb m r.2 ∧ m ≤ k ∧ M ≤ m) ∧ FrM M P E.2.2.2.1 σ0 r.2
  | some t, r => PS T n (seeN (dropR E c) t.2.2.2.2.2) o t.1 t.2.1 t.2.2.2.2.1 r.2 ∧ r.1 = nI t.2.2.2.1 ∧ FrM M P E.2.2.2.1 σ0 r.2
def S17 (T : Nat → Int32) (n f : Nat) : Prop := ∀ (E : En) (o q v i e c g : Nat) (b : BT) (x : Option RT), G T n f 17 E o q v i e c g b = some x → ∀ (σ : MS) (L : Nat → Int32) (d M P : Nat), PS T n E o q v b σ → 1 ≤ M → M ≤ b.1 → P ≤ b.2.1 → b.1 + (n + 1 - q) + 3 * (d + 2) ≤ 70000 → b.2.1 + (n - q) ≤ 70000 → 12 * (21 - o) + 8 ≤ d → c ≤ E.2.2.1.length → g ≤ 1 → L 1 = nI g → L 2 = nI c → L 3 = hd i → (i = 0 ∨ (M ≤ i ∧ i < b.1 ∧ M ≤ e ∧ e < b.1 ∧ L 4 = nI e)) → ¬ L 5 = 0 → Tm (fun k => x_GE k d 4 1 L σ) (PoI T n E c o M P (b.1 + (n + 1 - q) + 3 * (d + 1)) σ x)
theorem hd_no {i : Nat} (h : i < 70000) : (hd i = -1 ↔ i = 0) := by
  unfold hd
  by_cases c : i = 0
  · rw [if_pos c]; exact ⟨fun _ => c, fun _ => rfl⟩
  · rw [if_neg c]
    refine ⟨fun z => ?_, fun z => absurd z c⟩
    have := (i_eq.mp z)
    rw [n_int (by omega), show ((-1 : Int32)).toInt = -1 from rfl] at this
    omega
theorem hd_pos {i : Nat} (h : ¬ i = 0) : hd i = nI i := if_neg h
theorem Tm_yes {α : Type} {c : Prop} {_ : Decidable c} {g h : Nat → Option α} {Q : α → Prop} (hc : c) (t : Tm g Q) : Tm (fun k => if c then g k else h k) Q := by
  simp only [if_pos hc]; exact t
theorem Tm_no {α : Type} {c : Prop} {_ : Decidable c} {g h : Nat → Option α} {Q : α → Prop} (hc : ¬ c) (t : Tm h Q) : Tm (fun k => if c then g k else h k) Q := by
  simp only [if_neg hc]; exact t
section ITERS
variable {T : Nat → Int32} {n f : Nat}
theorem PS_rw {E : En} {o q v : Nat} {b : BT} {σ : MS} {l1 l2 : List Nm} (h : PS T n E o q v b σ) (hl : E.2.2.1 = l1 ++ l2) : PS T n (E.1, E.2.1, l2, E.2.2.2) o q v b (upd σ.1 52 (nI l2.length), σ.2.1, σ.2.2) := by
  obtain ⟨hT, hO, hB, hV, ⟨⟨g1, g2, g3⟩, ⟨g4, g5, g6⟩, ⟨g7, g8, g9⟩⟩, hF⟩ := h
  rw [hl] at g5 g6
  have r : ∀ j, j ≠ 52 → ((upd σ.1 52 (nI l2.length), σ.2.1, σ.2.2) : MS).1 j = σ.1 j := fun j hj => upd_other hj
  refine ⟨PT_c (fun j _ _ => r j (by omega)) rfl rfl hT, ⟨(r 13 (by decide)).trans hO.1, hO.2⟩, PB_c (r 22 (by decide)) (r 24 (by decide)) (fun _ _ => rfl) hB, PV_c (r 37 (by decide)) rfl rfl hV, ⟨⟨(r 38 (by decide)).trans g1, g2, g3⟩, ⟨(upd_same : upd σ.1 52 (nI l2.length) 52 = _), ?_, rows_suf l1 g6⟩, ⟨(r 25 (by decide)).trans g7, g8, g9⟩⟩, PF_c (r 43 (by decide)) (r 42 (by decide)) rfl hF⟩
  rw [List.length_append] at g5
  show l2.length ≤ v
  omega
theorem e_17 (H6 : S6 T n f) (H17 : S17 T n f) : S17 T n (f + 1) := by
  intro E o q v i e c g b x hG σ L d M P hS h1 hM hP hn hp hdd hc hg hL1 hL2 hL3 hie hL5
  obtain ⟨d, rfl⟩ : ∃ d', d = d' + 1 := ⟨d - 1, by omega⟩
  rw [G_17] at hG
  have hq := PS_q hS
  have hv := PS_v hS
  have ho := PS_o hS
  have hu := tkN_b T n q hq.1
  have hsn : E.2.1.length ≤ v := hS.2.2.2.2.1.1.2.1
  have hrw : E.2.2.1.length ≤ v := hS.2.2.2.2.1.2.1.2.1
  have h52 : σ.1 52 = nI E.2.2.1.length := hS.2.2.2.2.1.2.1.1
  -- behind a fault
  have b13 : ∀ (ρ : MS) (m : Nat) (N : Nat → Int32), Bb m ρ → M ≤ m → m ≤ b.1 + (n + 1 - q) + 3 * (d + 1 + 1) → FrM M P E.2.2.2.1 σ ρ → Tm (fun k => x_GE k (d + 1) 4 13 N ρ) (PoI T n E c o M P (b.1 + (n + 1 - q) + 3 * (d + 1 + 1)) σ none) := fun ρ m N hB hMm hm hF => by
    refine Tm_suc (fun k => by rw [xE_4]) ?_
    show Tm (fun k => x_GE k (d + 1) 4 14 N (upd ρ.1 52 (N 2), ρ.2.1, ρ.2.2)) _
    refine Tm_suc (fun k => by rw [xE_4]) ?_
    refine Tm_some ⟨⟨m, ⟨?_, ?_⟩, hm, hMm⟩, FrM_tr hF (FrM_sc (fun j hj => upd_other (by omega)))⟩
    · show ¬ upd ρ.1 52 (N 2) 10 = 0
      rw [upd_other (by decide)]; exact hB.1
    · show upd ρ.1 52 (N 2) 22 = _
      rw [upd_other (by decide)]; exact hB.2
  have b1 : ∀ (ρ : MS) (m : Nat) (N : Nat → Int32), Bb m ρ → M ≤ m → m ≤ b.1 + (n + 1 - q) + 3 * (d + 1 + 1) → FrM M P E.2.2.2.1 σ ρ → Tm (fun k => x_GE k (d + 1) 4 1 N ρ) (PoI T n E c o M P (b.1 + (n + 1 - q) + 3 * (d + 1 + 1)) σ none) := fun ρ m N hB hMm hm hF => by
    refine Tm_suc (fun k => by rw [xE_4]) ?_
    refine Tm_ite (c := N 5 = 0) (fun _ => b13 ρ m _ hB hMm hm hF) (fun _ => ?_)
    exact Tm_ite (c := ρ.1 10 = 0) (fun z => absurd z hB.1) (fun _ => b13 ρ m _ hB hMm hm hF)
  have b9 : ∀ (ρ : MS) (m : Nat) (N : Nat → Int32), Bb m ρ → M ≤ m → m ≤ b.1 + (n + 1 - q) + 3 * (d + 1 + 1) → FrM M P E.2.2.2.1 σ ρ → Tm (fun k => x_GE k (d + 1) 4 9 N ρ) (PoI T n E c o M P (b.1 + (n + 1 - q) + 3 * (d + 1 + 1)) σ none) := fun ρ m N hB hMm hm hF => by
    refine Tm_suc (fun k => by rw [xE_4]) ?_
    refine Tm_ite (c := ρ.1 10 = 0) (fun z => absurd z hB.1) (fun _ => ?_)
    refine Tm_suc (fun k => by rw [xE_4]) ?_
    show Tm (fun k => x_GE k (d + 1) 4 11 (upd N 100 0) ρ) _
    refine Tm_suc (fun k => by rw [xE_4]) ?_
    show Tm (fun k => if upd N 100 0 100 = 0 then x_GE k (d + 1) 4 12 (upd (upd N 100 0) 5 (upd N 100 0 100)) ρ else ob (x_take k 0 (fun _ => 0) ρ) (fun r2 => x_GE k (d + 1) 4 12 (upd (upd N 100 0) 5 (upd N 100 0 100)) r2.2)) _
    refine Tm_ite (fun _ => ?_) (fun z => absurd upd_same z)
    refine Tm_suc (fun k => by rw [xE_4]) ?_
    exact b1 ρ m _ hB hMm hm hF
  have b7 : ∀ (ρ : MS) (m : Nat) (N : Nat → Int32), Bb m ρ → M ≤ m → m ≤ b.1 + (n + 1 - q) + 3 * (d + 1 + 1) → FrM M P E.2.2.2.1 σ ρ → Tm (fun k => x_GE k (d + 1) 4 7 N ρ) (PoI T n E c o M P (b.1 + (n + 1 - q) + 3 * (d + 1 + 1)) σ none) := fun ρ m N hB hMm hm hF => by
    refine Tm_suc (fun k => by rw [xE_4]) ?_
    show Tm (fun k => x_GE k (d + 1) 4 8 (upd (upd N 4 (N 10)) 11 (N 6)) ρ) _
    refine Tm_suc (fun k => by rw [xE_4]) ?_
    refine Tm_ite (fun _ => b9 ρ m _ hB hMm hm hF) (fun _ => ?_)
    exact Tm_ite (c := ρ.1 10 = 0) (fun z => absurd z hB.1) (fun _ => b9 ρ m _ hB hMm hm hF)
  -- the node of an iter, behind a fault
  have bn : ∀ (ρ : MS) (m : Nat) (N Z : Nat → Int32) (y : Int32), N 3 = hd i → (i = 0 ∨ N 4 = nI e) → Bb m ρ → M ≤ m → m + 1 ≤ b.1 + (n + 1 - q) + 3 * (d + 1 + 1) → FrM M P E.2.2.2.1 σ ρ → Tm (fun k => ob (x_node k 0 Z ρ) (fun r3 => if N 3 = -1 then x_GE k (d + 1) 4 7 (upd (upd (upd N 9 y) 10 r3.1) 3 r3.1) r3.2 else x_GE k (d + 1) 4 6 (upd (upd N 9 y) 10 r3.1) r3.2)) (PoI T n E c o M P (b.1 + (n + 1 - q) + 3 * (d + 1 + 1)) σ none) := fun ρ m N Z y hN3 hN4 hB hMm hm hF => by
    refine Tm_ob (b_node (M := M) (P := P) (w := E.2.2.2.1) hB (by omega) hMm _) (fun r3 hr3 => ?_)
    refine Tm_ite (fun _ => b7 r3.2 _ _ hr3.2.1 (by omega) hm (FrM_tr hF hr3.2.2)) (fun z => ?_)
    have hi : ¬ i = 0 := fun y => z (by rw [hN3, y]; rfl)
    rcases hie with hi2 | ⟨_, _, i3, i4, _⟩
    · exact absurd hi2 hi
    rcases hN4 with hi2 | hN4
    · exact absurd hi2 hi
    refine Tm_suc (fun k => by rw [xE_4]) ?_
    have e4 : (upd (upd N 9 y) 10 r3.1) 4 = nI e := by rw [upd_other (by decide), upd_other (by decide)]; exact hN4
    show Tm (fun k => if ¬ ((upd (upd N 9 y) 10 r3.1) 4 < 0 ∨ 70000 ≤ ((upd (upd N 9 y) 10 r3.1) 4).toNatClampNeg) then x_GE k (d + 1) 4 7 (upd (upd N 9 y) 10 r3.1) (mSet r3.2 9 ((upd (upd N 9 y) 10 r3.1) 4).toNatClampNeg ((upd (upd N 9 y) 10 r3.1) 10)) else none) _
    rw [e4]
    refine Tm_chk (n_in (by omega) (by omega)) ?_
    rw [n_cl (p := e) (by omega)]
    exact b7 (mSet r3.2 9 e _) _ _ (Bb_set hr3.2.1) (by omega) hm (FrM_tr hF (FrM_tr hr3.2.2 (FrM_set (by decide) (by decide) (Or.inr i3) _)))
  have b5 : ∀ (ρ : MS) (m : Nat) (N : Nat → Int32), N 3 = hd i → (i = 0 ∨ N 4 = nI e) → Bb m ρ → M ≤ m → m + 1 ≤ b.1 + (n + 1 - q) + 3 * (d + 1 + 1) → FrM M P E.2.2.2.1 σ ρ → Tm (fun k => x_GE k (d + 1) 4 5 N ρ) (PoI T n E c o M P (b.1 + (n + 1 - q) + 3 * (d + 1 + 1)) σ none) := fun ρ m N hN3 hN4 hB hMm hm hF => by
    refine Tm_suc (fun k => by rw [xE_4]) ?_
    refine Tm_ob (b_wantWord hB.1 _) (fun r1 hr1 => ?_)
    obtain ⟨u, τ⟩ := r1
    have hr1 : τ = ρ := hr1
    subst hr1
    show Tm (fun k => ob (x_GE k d 14 0 (fun _ => 0) τ) _) _
    obtain ⟨d', hd'⟩ : ∃ d', d = d' + 3 := ⟨d - 3, by omega⟩
    refine Tm_ob (by rw [hd']; exact b_sum hB.1) (fun r7 hr7 => ?_)
    subst hr7
    exact bn τ m N _ 0 hN3 hN4 hB hMm hm hF
  -- behind the names: in, a sum, the node, the names are seen, perhaps one more
  have mid : ∀ (ρ : MS) (N : Nat → Int32) (ns : List Nm) (q3 v3 e2 mode : Nat) (b3 : BT), N 1 = nI g → N 2 = nI c → N 3 = hd i → (i = 0 ∨ N 4 = nI e) → N 6 = nI E.2.2.1.length → N 7 = nI mode → N 8 = nI e2 → PS T n (rowN E ns) o q3 v3 b3 ρ → v + ns.length ≤ v3 → q < q3 → b.1 ≤ b3.1 → b3.1 + q ≤ b.1 + q3 → b.2.1 ≤ b3.2.1 → b3.2.1 + q ≤ b.2.1 + q3 → FrM M P E.2.2.2.1 σ ρ →
      gW T n 46 q3 (fun q4 => gb (G T n f 6 (rowN E ns) o q4 v3 0 0 0 0 b3) (fun s =>
        if tkK T n s.1 = 12 then gT T n s.1 (fun q5 => gb (G T n f 17 (rowN (seeN E ns) ns) o q5 s.2.1 (if i = 0 then s.2.2.2.2.1.1 else i) s.2.2.2.2.1.1 c g (if i = 0 then bNode s.2.2.2.2.1 30 (nI mode) (nI e2) (nI s.2.2.2.1) else bSet (bNode s.2.2.2.2.1 30 (nI mode) (nI e2) (nI s.2.2.2.1)) 9 e (nI s.2.2.2.2.1.1))) (fun t => some (some (t.1, t.2.1, 0, t.2.2.2.1, t.2.2.2.2.1, t.2.2.2.2.2 ++ ns))))
        else some (some (s.1, s.2.1, 0, (if i = 0 then s.2.2.2.2.1.1 else i), (if i = 0 then bNode s.2.2.2.2.1 30 (nI mode) (nI e2) (nI s.2.2.2.1) else bSet (bNode s.2.2.2.2.1 30 (nI mode) (nI e2) (nI s.2.2.2.1)) 9 e (nI s.2.2.2.2.1.1)), ns)))) = some x →
      Tm (fun k => x_GE k (d + 1) 4 5 N ρ) (PoI T n E c o M P (b.1 + (n + 1 - q) + 3 * (d + 1 + 1)) σ x) := fun ρ N ns q3 v3 e2 mode b3 n1 n2 n3 n4 n6 n7 n8 hS3 hvn hqq z1 z2 z3 z4 hF hG => by
    have hq3 := PS_q hS3
    have hv3 := PS_v hS3
    have hu3 := tkN_b T n q3 hq3.1
    refine Tm_suc (fun k => by rw [xE_4]) ?_
    refine Tm_ob (p_wantWord (M := M) (P := P) (w := E.2.2.2.1) hS3 (s := 14) (by decide) rfl) (fun r1 hr1 => ?_)
    show Tm (fun k => ob (x_GE k d 14 0 (fun _ => 0) r1.2) _) _
    rcases gW_any hG with ⟨t1, rfl⟩ | ⟨t1, hG⟩
    · rcases hr1.2 with ⟨_, hB⟩ | ⟨z, _⟩
      · obtain ⟨d', hd'⟩ : ∃ d', d = d' + 3 := ⟨d - 3, by omega⟩
        refine Tm_ob (by rw [hd']; exact b_sum hB.1) (fun r7 hr7 => ?_)
        subst hr7
        exact bn r1.2 b3.1 N _ 0 n3 n4 hB (by omega) (by omega) (FrM_tr hF hr1.1)
      · exact absurd z t1
    rcases hr1.2 with ⟨z, _⟩ | ⟨_, hS4⟩
    · exact absurd t1 z
    have hu4 := hu3.2.2.2 (by rw [t1.1]; decide)
    rcases gb_any hG with ⟨h7, rfl⟩ | ⟨s, h7, hG⟩
    · refine Tm_ob (H6 _ _ _ _ _ _ _ _ h7 r1.2 _ d M P hS4 h1 (by omega) (by omega) (by omega) (by omega) (by omega) trivial) (fun r7 hr7 => ?_)
      obtain ⟨⟨m1, hm, hmk, hMm⟩, _, hF7⟩ := hr7
      exact bn r7.2 m1 N _ r7.1 n3 n4 hm hMm (by omega) (FrM_tr hF (FrM_tr hr1.1 hF7))
    obtain ⟨⟨a1, a2, a3, a4, a5, a6, a7, a8⟩, a9⟩ := mo_of (M := M) hu3.2.1 hv3 h7 (by omega) h1 trivial (fun h => h) (fun h => h)
    refine Tm_ob (H6 _ _ _ _ _ _ _ _ h7 r1.2 _ d M P hS4 h1 (by omega) (by omega) (by omega) (by omega) (by omega) trivial) (fun r7 hr7 => ?_)
    obtain ⟨hS7, hr71, hF7⟩ := hr7
    have hF7 : FrM M P E.2.2.2.1 σ r7.2 := FrM_tr hF (FrM_tr hr1.1 hF7)
    have hv7 := PS_v hS7
    refine Tm_ob (p_node (M := M) (P := P) (w := E.2.2.2.1) hS7 (by omega) (by omega) _) (fun r8 hr8 => ?_)
    obtain ⟨hr81, hS8, hF8⟩ := hr8
    have m2 : (upd (upd (upd (upd (fun _ => (0 : Int32)) 1 30) 2 (N 7)) 3 (N 8)) 4 r7.1) 2 = nI mode := by rw [upd_other (by decide), upd_other (by decide), upd_same]; exact n7
    have m3 : (upd (upd (upd (upd (fun _ => (0 : Int32)) 1 30) 2 (N 7)) 3 (N 8)) 4 r7.1) 3 = nI e2 := by rw [upd_other (by decide), upd_same]; exact n8
    have m4 : (upd (upd (upd (upd (fun _ => (0 : Int32)) 1 30) 2 (N 7)) 3 (N 8)) 4 r7.1) 4 = nI s.2.2.2.1 := by rw [upd_same]; exact hr71
    rw [m2, m3, m4] at hS8
    -- from 7 on: bb is what is laid, h the list's head
    have seven : ∀ (ρ2 : MS) (N2 : Nat → Int32) (bb : BT) (h : Nat), N2 1 = nI g → N2 2 = nI c → N2 3 = nI h → N2 6 = nI E.2.2.1.length → N2 10 = nI s.2.2.2.2.1.1 → PS T n (rowN E ns) o s.1 s.2.1 bb ρ2 → ¬ h = 0 → M ≤ h → h < bb.1 → bb.1 = s.2.2.2.2.1.1 + 1 → bb.2.1 = s.2.2.2.2.1.2.1 → FrM M P E.2.2.2.1 σ ρ2 →
        (if tkK T n s.1 = 12 then gT T n s.1 (fun q5 => gb (G T n f 17 (rowN (seeN E ns) ns) o q5 s.2.1 h s.2.2.2.2.1.1 c g bb) (fun t => some (some (t.1, t.2.1, 0, t.2.2.2.1, t.2.2.2.2.1, t.2.2.2.2.2 ++ ns)))) else some (some (s.1, s.2.1, 0, h, bb, ns))) = some x →
        Tm (fun k => x_GE k (d + 1) 4 7 N2 ρ2) (PoI T n E c o M P (b.1 + (n + 1 - q) + 3 * (d + 1 + 1)) σ x) := fun ρ2 N2 bb h p1 p2 p3 p6 p10 hS2 hh0 hMh hhb hbb hbp hF2 hG => by
      refine Tm_suc (fun k => by rw [xE_4]) ?_
      refine see_loop (S := E.2.1) (R := E.2.2.1) (gl := E.1) (X := E.2.2.2) (M := M) (P := P) (w := E.2.2.2.1) (σ0 := σ) _ ns.length ns [] ρ2 _ rfl hS2 (by rw [upd_same, p6]; show nI E.2.2.1.length = nI (0 + E.2.2.1.length); congr 1; omega) (by show ns.length + 0 + E.2.1.length ≤ s.2.1; omega) hF2 (fun ρ3 N3 hN3 hS3' hF3 => ?_)
      have g1 : N3 1 = nI g := by rw [hN3 1 (by decide), upd_other (by decide), upd_other (by decide)]; exact p1
      have g2 : N3 2 = nI c := by rw [hN3 2 (by decide), upd_other (by decide), upd_other (by decide)]; exact p2
      have g3 : N3 3 = nI h := by rw [hN3 3 (by decide), upd_other (by decide), upd_other (by decide)]; exact p3
      have g4 : N3 4 = nI s.2.2.2.2.1.1 := by rw [hN3 4 (by decide), upd_other (by decide), upd_same]; exact p10
      have hS9 : PS T n (rowN (seeN E ns) ns) o s.1 s.2.1 bb ρ3 := hS3'
      have hws := tkN_b T n s.1 a2
      refine Tm_suc (fun k => by rw [xE_4]) ?_
      refine Tm_ite (c := ρ3.1 10 = 0) (fun _ => ?_) (fun z => absurd (PS_ok hS9) z)
      refine Tm_ob (p_sign hS9 (s := 12) (by decide) (by decide) rfl) (fun r2 hr2 => ?_)
      obtain ⟨u, τ⟩ := r2
      obtain ⟨h3, hr2⟩ := hr2
      have h3 : τ = ρ3 := h3
      subst h3
      refine Tm_ite (fun z => ?_) (fun z => ?_)
      · rw [if_neg (fun y => hr2.mpr y z)] at hG
        cases hG
        refine Tm_suc (fun k => by rw [xE_4]) ?_
        show Tm (fun k => x_GE k (d + 1) 4 11 (upd N3 100 0) τ) _
        refine Tm_suc (fun k => by rw [xE_4]) ?_
        show Tm (fun k => if upd N3 100 0 100 = 0 then x_GE k (d + 1) 4 12 (upd (upd N3 100 0) 5 (upd N3 100 0 100)) τ else ob (x_take k 0 (fun _ => 0) τ) (fun r2 => x_GE k (d + 1) 4 12 (upd (upd N3 100 0) 5 (upd N3 100 0 100)) r2.2)) _
        refine Tm_ite (fun _ => ?_) (fun z => absurd upd_same z)
        refine Tm_suc (fun k => by rw [xE_4]) ?_
        show Tm (fun k => x_GE k (d + 1) 4 1 (upd (upd N3 100 0) 5 (upd N3 100 0 100)) τ) _
        refine Tm_suc (fun k => by rw [xE_4]) ?_
        show Tm (fun k => x_GE k (d + 1) 4 13 (upd (upd N3 100 0) 5 (upd N3 100 0 100)) τ) _
        refine Tm_suc (fun k => by rw [xE_4]) ?_
        show Tm (fun k => x_GE k (d + 1) 4 14 (upd (upd N3 100 0) 5 (upd N3 100 0 100)) (upd τ.1 52 (upd (upd N3 100 0) 5 (upd N3 100 0 100) 2), τ.2.1, τ.2.2)) _
        refine Tm_suc (fun k => by rw [xE_4]) ?_
        have hsplit : (rowN (seeN E ns) ns).2.2.1 = (ns ++ E.2.2.1.take (E.2.2.1.length - c)) ++ E.2.2.1.drop (E.2.2.1.length - c) := by
          rw [List.append_assoc, List.take_append_drop]; rfl
        have hlen : (E.2.2.1.drop (E.2.2.1.length - c)).length = c := by rw [List.length_drop]; omega
        have hfin := PS_rw hS9 hsplit
        rw [hlen] at hfin
        have e2' : upd (upd N3 100 0) 5 (upd N3 100 0 100) 2 = nI c := by rw [upd_other (by decide), upd_other (by decide)]; exact g2
        have e3' : upd (upd N3 100 0) 5 (upd N3 100 0 100) 3 = nI h := by rw [upd_other (by decide), upd_other (by decide)]; exact g3
        show Tm (fun k => some (upd (upd N3 100 0) 5 (upd N3 100 0 100) 3, ((upd τ.1 52 (upd (upd N3 100 0) 5 (upd N3 100 0 100) 2), τ.2.1, τ.2.2) : MS))) _
        rw [e2', e3']
        exact Tm_some ⟨hfin, rfl, FrM_tr hF3 (FrM_sc (fun j hj => upd_other (by omega)))⟩
      · have hK := hr2.mp z
        rw [if_pos hK] at hG
        have hws4 := hws.2.2.2 (by rw [hK]; decide)
        refine Tm_suc (fun k => by rw [xE_4]) ?_
        show Tm (fun k => ob (x_take k 0 (fun _ => 0) τ) (fun r2 => x_GE k (d + 1) 4 12 (upd (upd N3 100 1) 5 (upd N3 100 1 100)) r2.2)) _
        refine Tm_ob (p_take (M := M) (P := P) (w := E.2.2.2.1) hS9 _) (fun r4 hr4 => ?_)
        refine Tm_suc (fun k => by rw [xE_4]) ?_
        rcases gT_any hG with ⟨t4, rfl⟩ | ⟨t4, hG⟩
        · rcases hr4.2 with ⟨_, hB⟩ | ⟨y, _⟩
          · exact b1 r4.2 _ _ hB (by omega) (by omega) (FrM_tr hF3 hr4.1)
          · exact absurd t4 y
        rcases hr4.2 with ⟨y, _⟩ | ⟨_, hS10⟩
        · exact absurd y t4
        -- the next iter of the row
        obtain ⟨y, h9, hy⟩ : ∃ y, G T n f 17 (rowN (seeN E ns) ns) o (tkN T n s.1) s.2.1 h s.2.2.2.2.1.1 c g bb = some y ∧ (match y with | none => x = none | some t => x = some (t.1, t.2.1, 0, t.2.2.2.1, t.2.2.2.2.1, t.2.2.2.2.2 ++ ns)) := by
          rcases gb_any hG with ⟨h9, hy⟩ | ⟨t, h9, hG⟩
          · exact ⟨none, h9, hy⟩
          · exact ⟨some t, h9, (Option.some.inj hG).symm⟩
        have hlen2 : (rowN (seeN E ns) ns).2.2.1.length = ns.length + E.2.2.1.length := List.length_append
        refine Tm_mono (H17 _ _ _ _ _ _ _ _ _ y h9 r4.2 _ (d + 1) M P hS10 h1 (by omega) (by omega) (by omega) (by omega) (by omega) (by rw [hlen2]; omega) hg ?_ ?_ ?_ (Or.inr ⟨hMh, hhb, by omega, by omega, ?_⟩) ?_) (fun r hr => ?_)
        · rw [upd_other (by decide), upd_other (by decide)]; exact g1
        · rw [upd_other (by decide), upd_other (by decide)]; exact g2
        · rw [upd_other (by decide), upd_other (by decide), g3, hd_pos hh0]
        · rw [upd_other (by decide), upd_other (by decide)]; exact g4
        · rw [upd_same, upd_same]; decide
        cases y with
        | none =>
          have hy : x = none := hy
          subst hy
          obtain ⟨⟨m, k1, k2, k3⟩, k4⟩ := hr
          exact ⟨⟨m, k1, by omega, k3⟩, FrM_tr hF3 (FrM_tr hr4.1 k4)⟩
        | some t =>
          have hy : x = some (t.1, t.2.1, 0, t.2.2.2.1, t.2.2.2.2.1, t.2.2.2.2.2 ++ ns) := hy
          subst hy
          obtain ⟨k1, k2, k3⟩ := hr
          refine ⟨?_, k2, FrM_tr hF3 (FrM_tr hr4.1 k3)⟩
          have eE : seeN (dropR (rowN (seeN E ns) ns) c) t.2.2.2.2.2 = seeN (dropR E c) (t.2.2.2.2.2 ++ ns) := by
            show (E.1, t.2.2.2.2.2 ++ (ns ++ E.2.1), (ns ++ E.2.2.1).drop ((ns ++ E.2.2.1).length - c), E.2.2.2) = (E.1, (t.2.2.2.2.2 ++ ns) ++ E.2.1, E.2.2.1.drop (E.2.2.1.length - c), E.2.2.2)
            rw [List.append_assoc, List.length_append, show ns.length + E.2.2.1.length - c = ns.length + (E.2.2.1.length - c) by omega, List.drop_append]
            rw [show ns.length + (E.2.2.1.length - c) - ns.length = E.2.2.1.length - c by omega, List.drop_eq_nil_of_le (by omega), List.nil_append]
          rw [eE] at k1
          exact k1
    rw [hr81]
    by_cases hi : i = 0
    · simp only [if_pos hi] at hG
      refine Tm_ite (fun _ => ?_) (fun z => absurd (by rw [n3, hi]; rfl) z)
      refine seven r8.2 _ _ s.2.2.2.2.1.1 ?_ ?_ ?_ ?_ ?_ hS8 (by omega) (by omega) (by rw [bNode_1]; omega) rfl rfl (FrM_tr hF7 hF8) hG
      · rw [upd_other (by decide), upd_other (by decide), upd_other (by decide)]; exact n1
      · rw [upd_other (by decide), upd_other (by decide), upd_other (by decide)]; exact n2
      · rw [upd_same]
      · rw [upd_other (by decide), upd_other (by decide), upd_other (by decide)]; exact n6
      · rw [upd_other (by decide), upd_same]
    · simp only [if_neg hi] at hG
      rcases hie with hi2 | ⟨i1, i2, i3, i4, _⟩
      · exact absurd hi2 hi
      rcases n4 with hi2 | n4
      · exact absurd hi2 hi
      refine Tm_ite (fun z => absurd ((hd_no (by omega)).mp (by rw [← n3]; exact z)) hi) (fun _ => ?_)
      have q1 : (upd (upd N 9 r7.1) 10 (nI s.2.2.2.2.1.1)) 1 = nI g := by rw [upd_other (by decide), upd_other (by decide)]; exact n1
      have q2 : (upd (upd N 9 r7.1) 10 (nI s.2.2.2.2.1.1)) 2 = nI c := by rw [upd_other (by decide), upd_other (by decide)]; exact n2
      have q3' : (upd (upd N 9 r7.1) 10 (nI s.2.2.2.2.1.1)) 3 = nI i := by rw [upd_other (by decide), upd_other (by decide), n3, hd_pos hi]
      have q4 : (upd (upd N 9 r7.1) 10 (nI s.2.2.2.2.1.1)) 4 = nI e := by rw [upd_other (by decide), upd_other (by decide)]; exact n4
      have q6 : (upd (upd N 9 r7.1) 10 (nI s.2.2.2.2.1.1)) 6 = nI E.2.2.1.length := by rw [upd_other (by decide), upd_other (by decide)]; exact n6
      have q10 : (upd (upd N 9 r7.1) 10 (nI s.2.2.2.2.1.1)) 10 = nI s.2.2.2.2.1.1 := upd_same
      generalize upd (upd N 9 r7.1) 10 (nI s.2.2.2.2.1.1) = N5 at q1 q2 q3' q4 q6 q10
      refine Tm_suc (fun k => by rw [xE_4]) ?_
      show Tm (fun k => if ¬ (N5 4 < 0 ∨ 70000 ≤ (N5 4).toNatClampNeg) then x_GE k (d + 1) 4 7 N5 (mSet r8.2 9 (N5 4).toNatClampNeg (N5 10)) else none) _
      rw [q4, q10]
      refine Tm_chk (n_in (by omega) (by omega)) ?_
      rw [n_cl (p := e) (by omega)]
      exact seven (mSet r8.2 9 e (nI s.2.2.2.2.1.1)) N5 _ i q1 q2 q3' q6 q10 (PS_set hS8 (by decide) (by decide) _) hi i1 (by rw [bSet_1, bNode_1]; omega) rfl rfl (FrM_tr hF7 (FrM_tr hF8 (FrM_set (by decide) (by decide) (Or.inr i3) _))) hG
  have hi4 : i = 0 ∨ L 4 = nI e := by
    rcases hie with z | z
    · exact Or.inl z
    · exact Or.inr z.2.2.2.2
  refine Tm_suc (fun k => by rw [xE_4]) ?_
  refine Tm_ite (c := L 5 = 0) (fun z => absurd z hL5) (fun _ => ?_)
  refine Tm_ite (c := σ.1 10 = 0) (fun _ => ?_) (fun z => absurd (PS_ok hS) z)
  refine Tm_ob (p_sign hS (s := 10) (by decide) (by decide) rfl) (fun r3 hr3 => ?_)
  obtain ⟨u, τ⟩ := r3
  obtain ⟨h3, hr3⟩ := hr3
  have h3 : τ = σ := h3
  subst h3
  rw [h52]
  refine Tm_ite (fun z => ?_) (fun z => ?_)
  · -- one name
    rw [if_neg (fun y => hr3.mpr y z)] at hG
    refine Tm_suc (fun k => by rw [xE_4]) ?_
    show Tm (fun k => x_GE k (d + 1) 4 3 (upd (upd L 6 (nI E.2.2.1.length)) 100 0) τ) _
    refine Tm_suc (fun k => by rw [xE_4]) ?_
    show Tm (fun k => x_GE k (d + 1) 4 4 (upd (upd (upd (upd L 6 (nI E.2.2.1.length)) 100 0) 7 (upd (upd L 6 (nI E.2.2.1.length)) 100 0 100)) 8 (-1)) τ) _
    have q1 : (upd (upd (upd (upd L 6 (nI E.2.2.1.length)) 100 0) 7 (upd (upd L 6 (nI E.2.2.1.length)) 100 0 100)) 8 (-1)) 1 = nI g := by rw [upd_other (by decide), upd_other (by decide), upd_other (by decide), upd_other (by decide)]; exact hL1
    have q2 : (upd (upd (upd (upd L 6 (nI E.2.2.1.length)) 100 0) 7 (upd (upd L 6 (nI E.2.2.1.length)) 100 0 100)) 8 (-1)) 2 = nI c := by rw [upd_other (by decide), upd_other (by decide), upd_other (by decide), upd_other (by decide)]; exact hL2
    have q3' : (upd (upd (upd (upd L 6 (nI E.2.2.1.length)) 100 0) 7 (upd (upd L 6 (nI E.2.2.1.length)) 100 0 100)) 8 (-1)) 3 = hd i := by rw [upd_other (by decide), upd_other (by decide), upd_other (by decide), upd_other (by decide)]; exact hL3
    have q4 : i = 0 ∨ (upd (upd (upd (upd L 6 (nI E.2.2.1.length)) 100 0) 7 (upd (upd L 6 (nI E.2.2.1.length)) 100 0 100)) 8 (-1)) 4 = nI e := by rw [upd_other (by decide), upd_other (by decide), upd_other (by decide), upd_other (by decide)]; exact hi4
    have q6 : (upd (upd (upd (upd L 6 (nI E.2.2.1.length)) 100 0) 7 (upd (upd L 6 (nI E.2.2.1.length)) 100 0 100)) 8 (-1)) 6 = nI E.2.2.1.length := by rw [upd_other (by decide), upd_other (by decide), upd_other (by decide), upd_same]
    have q7 : (upd (upd (upd (upd L 6 (nI E.2.2.1.length)) 100 0) 7 (upd (upd L 6 (nI E.2.2.1.length)) 100 0 100)) 8 (-1)) 7 = nI 0 := by rw [upd_other (by decide), upd_same, upd_same]; rfl
    generalize upd (upd (upd (upd L 6 (nI E.2.2.1.length)) 100 0) 7 (upd (upd L 6 (nI E.2.2.1.length)) 100 0 100)) 8 (-1) = N1 at q1 q2 q3' q4 q6 q7
    refine Tm_suc (fun k => by rw [xE_4]) ?_
    refine Tm_ob (p_tellName (M := M) (P := P) hS hP hM (by omega) hp hc hg (by rw [upd_other (by decide), upd_same]; exact q2) (by rw [upd_same]; exact q1)) (fun r5 hr5 => ?_)
    have s1 : upd N1 8 r5.1 1 = nI g := by rw [upd_other (by decide)]; exact q1
    have s2 : upd N1 8 r5.1 2 = nI c := by rw [upd_other (by decide)]; exact q2
    have s3 : upd N1 8 r5.1 3 = hd i := by rw [upd_other (by decide)]; exact q3'
    have s4 : i = 0 ∨ upd N1 8 r5.1 4 = nI e := by rw [upd_other (by decide)]; exact q4
    have s6 : upd N1 8 r5.1 6 = nI E.2.2.1.length := by rw [upd_other (by decide)]; exact q6
    have s7 : upd N1 8 r5.1 7 = nI 0 := by rw [upd_other (by decide)]; exact q7
    rcases gN_any hG with ⟨t2, rfl⟩ | ⟨t2, hG⟩
    · rcases hr5.2 with ⟨_, m, hB, hm1, hm2⟩ | ⟨y, _⟩
      · exact b5 r5.2 m _ s3 s4 hB (by omega) (by omega) hr5.1
      · exact absurd y t2
    rcases hr5.2 with ⟨y, _⟩ | ⟨_, hr51, hS5⟩
    · exact absurd t2 y
    have hu4 := hu.2.2.2 (by rw [t2.1]; decide)
    have hE := tkE_b T n q hq.1
    exact mid r5.2 _ [(tkS T n q, b.2.1, v)] (tkN T n q) (v + 1) b.1 0 _ s1 s2 s3 s4 s6 s7 (by rw [upd_same]; exact hr51) hS5 (Nat.le_refl _) (by omega) (by rw [bNode_1, bKeep_1, bSlot_1]; omega) (by rw [bNode_1, bKeep_1, bSlot_1]; omega) (by rw [bNode_p, bKeep_p, bSlot_p]; omega) (by rw [bNode_p, bKeep_p, bSlot_p]; omega) hr5.1 hG
  · -- a pattern
    have hK := hr3.mp z
    rw [if_pos hK] at hG
    refine Tm_suc (fun k => by rw [xE_4]) ?_
    have q1 : (upd (upd L 6 (nI E.2.2.1.length)) 100 1) 1 = nI g := by rw [upd_other (by decide), upd_other (by decide)]; exact hL1
    have q2 : (upd (upd L 6 (nI E.2.2.1.length)) 100 1) 2 = nI c := by rw [upd_other (by decide), upd_other (by decide)]; exact hL2
    have q3' : (upd (upd L 6 (nI E.2.2.1.length)) 100 1) 3 = hd i := by rw [upd_other (by decide), upd_other (by decide)]; exact hL3
    have q4 : i = 0 ∨ (upd (upd L 6 (nI E.2.2.1.length)) 100 1) 4 = nI e := by rw [upd_other (by decide), upd_other (by decide)]; exact hi4
    have q6 : (upd (upd L 6 (nI E.2.2.1.length)) 100 1) 6 = nI E.2.2.1.length := by rw [upd_other (by decide), upd_same]
    have q100 : (upd (upd L 6 (nI E.2.2.1.length)) 100 1) 100 = nI 1 := upd_same
    generalize upd (upd L 6 (nI E.2.2.1.length)) 100 1 = N1 at q1 q2 q3' q4 q6 q100
    refine Tm_ite (c := N1 100 = 1) (fun _ => ?_) (fun y => absurd q100 y)
    refine Tm_ob (p_pattern (M := M) (P := P) (c := c) (g := g) (f := f) (K := fun q3 r e2 nm => gW T n 46 q3 (fun q4 => gb (G T n f 6 (rowN E (r.2.2.2.2.2 ++ [nm])) o q4 r.2.1 0 0 0 0 r.2.2.2.2.1) (fun s =>
          if tkK T n s.1 = 12 then gT T n s.1 (fun q5 => gb (G T n f 17 (rowN (seeN E (r.2.2.2.2.2 ++ [nm])) (r.2.2.2.2.2 ++ [nm])) o q5 s.2.1 (if i = 0 then s.2.2.2.2.1.1 else i) s.2.2.2.2.1.1 c g (if i = 0 then bNode s.2.2.2.2.1 30 1 (nI e2) (nI s.2.2.2.1) else bSet (bNode s.2.2.2.2.1 30 1 (nI e2) (nI s.2.2.2.1)) 9 e (nI s.2.2.2.2.1.1))) (fun t => some (some (t.1, t.2.1, 0, t.2.2.2.1, t.2.2.2.2.1, t.2.2.2.2.2 ++ (r.2.2.2.2.2 ++ [nm])))))
          else some (some (s.1, s.2.1, 0, (if i = 0 then s.2.2.2.2.1.1 else i), (if i = 0 then bNode s.2.2.2.2.1 30 1 (nI e2) (nI s.2.2.2.1) else bSet (bNode s.2.2.2.2.1 30 1 (nI e2) (nI s.2.2.2.1)) 9 e (nI s.2.2.2.2.1.1)), r.2.2.2.2.2 ++ [nm]))))) hG hK hS h1 hM hP (by omega) hp hc hg (by rw [upd_other (by decide), upd_same]; exact q2) (by rw [upd_same]; exact q1)) (fun r5 hr5 => ?_)
    have s1 : upd (upd N1 7 (N1 100)) 8 r5.1 1 = nI g := by rw [upd_other (by decide), upd_other (by decide)]; exact q1
    have s2 : upd (upd N1 7 (N1 100)) 8 r5.1 2 = nI c := by rw [upd_other (by decide), upd_other (by decide)]; exact q2
    have s3 : upd (upd N1 7 (N1 100)) 8 r5.1 3 = hd i := by rw [upd_other (by decide), upd_other (by decide)]; exact q3'
    have s4 : i = 0 ∨ upd (upd N1 7 (N1 100)) 8 r5.1 4 = nI e := by rw [upd_other (by decide), upd_other (by decide)]; exact q4
    have s6 : upd (upd N1 7 (N1 100)) 8 r5.1 6 = nI E.2.2.1.length := by rw [upd_other (by decide), upd_other (by decide)]; exact q6
    have s7 : upd (upd N1 7 (N1 100)) 8 r5.1 7 = nI 1 := by rw [upd_other (by decide), upd_same]; exact q100
    rcases hr5.2 with ⟨hx, m, hB, hm1, hm2⟩ | ⟨q5, s, e2, nm, hK2, hS5, hr51, k1, k2, k3, k4, k5, k6, k7, k8⟩
    · subst hx
      exact b5 r5.2 m _ s3 s4 hB hm1 (by omega) hr5.1
    · exact mid r5.2 _ (s.2.2.2.2.2 ++ [nm]) q5 s.2.1 e2 1 _ s1 s2 s3 s4 s6 s7 (by rw [upd_same]; exact hr51) hS5 k8 k3 k4 (by omega) k6 k7 hr5.1 hK2
end ITERS
