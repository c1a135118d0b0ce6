/-! Ifs of the reference: the loop over the branches. -/
section STM
variable {T : Nat → Int32} {n : Nat} {E : En} {o M P lp : Nat} {MD : Nat → Nat → Nat} {σ : MS}
abbrev bIf (l i m : Nat) (c : Int32) (t : ST) : BT := if l = 0 then bSet (bNode t.2.2.2.2.1 33 c (hd t.2.2.2.1) 0) 5 i (nI m) else bSet (bNode t.2.2.2.2.1 33 c (hd t.2.2.2.1) 0) 9 l (nI m)
/-- from 'then' on -/
theorem if4 {f d e l K q v : Nat} {b : BT} {s : SB} {c5 : Int32} {y x : Option ST} {ρ : MS} {N : Nat → Int32} (H0 : SB0 T n MD f)
    (hG : hW T n 40 q (fun q2 => hb (GS T n MD f 0 E lp (o + 1) q2 v (nI e) 0 0 b s) (fun t => if tkK T n t.1 = 41 then hT T n t.1 (fun q3 => GS T n MD f 3 E lp (o + 1) q3 t.2.1 0 e t.2.2.2.2.1.1 (bIf l e t.2.2.2.2.1.1 c5 t) t.2.2.2.2.2) else some (some (t.1, t.2.1, 0, t.2.2.2.2.1.1, bIf l e t.2.2.2.2.1.1 c5 t, t.2.2.2.2.2)))) = some y)
    (hZ : PZ T n MD E lp (o + 1) q v b s ρ) (hF : FrZ M P E.2.2.2.1 σ ρ) (hN : N 1 = nI e) (hN5 : N 5 = c5) (hN4 : N 4 = 0 ↔ ¬ l = 0) (hN2 : ¬ l = 0 → N 2 = nI l ∧ M ≤ l ∧ l < b.1) (he : M ≤ e) (he2 : e < b.1) (h1 : 1 ≤ M) (hM : M ≤ b.1) (hP : P ≤ b.2.1) (hn : b.1 + (n + 1 - q) + 967 + (d + 1) ≤ 70000) (hp : b.2.1 + (n - q) ≤ 70000) (hdd : 3 * (20 - (o + 1)) + 1 ≤ d) (hK : b.1 + (n + 1 - q) + 964 + (d + 1) ≤ K) (hbad : y = none → x = none)
    (hno : ∀ t, y = some t → ∀ (ρ' : MS) (N' : Nat → Int32), N' 1 = nI e → N' 2 = nI t.2.2.2.1 → FrZ M P E.2.2.2.1 σ ρ' → PZ T n MD E lp (o + 1) t.1 t.2.1 t.2.2.2.2.1 t.2.2.2.2.2 ρ' → Tm (fun k => x_GS k (d + 1) 2 10 N' ρ') (PoZ T n MD E lp o M P K σ x))
    (hyes : ∀ (q3 v3 m : Nat) (b3 : BT) (s3 : SB), GS T n MD f 3 E lp (o + 1) q3 v3 0 e m b3 s3 = some y → ∀ (ρ' : MS) (N' : Nat → Int32), FrZ M P E.2.2.2.1 σ ρ' → PZ T n MD E lp (o + 1) q3 v3 b3 s3 ρ' → N' 1 = nI e → N' 2 = nI m → N' 3 = 1 → N' 4 = 0 → M ≤ m → m < b3.1 → b.1 ≤ b3.1 → b3.1 + q ≤ b.1 + q3 → b.2.1 ≤ b3.2.1 → b3.2.1 + q ≤ b.2.1 + q3 → q ≤ q3 → q3 ≤ n → Tm (fun k => x_GS k (d + 1) 2 2 N' ρ') (PoZ T n MD E lp o M P K σ x)) : Tm (fun k => x_GS k (d + 1) 2 4 N ρ) (PoZ T n MD E lp o M P K σ x) := by
  have hS := hZ.1
  have hq := PS_q hS
  have hv := PS_v hS
  have hu := tkN_b T n q hq.1
  have hN2' : N 4 = 0 → ∃ l, N 2 = nI l ∧ M ≤ l ∧ l < 70000 := fun z => by
    have h := hN2 (hN4.mp z)
    exact ⟨l, h.1, h.2.1, by have := h.2.2; omega⟩
  refine Tm_suc (fun k => by rw [xS_2]) ?_
  refine Tm_ob (p_wantWord (M := M) (P := P) (w := E.2.2.2.1) hS (s := 8) (by decide) rfl) (fun r1 hr1 => ?_)
  have hF1 := FrZ_tr hF (FrZ_of hr1.1)
  rcases hW_any hG with ⟨t1, hy⟩ | ⟨t1, hG⟩
  · have hx := hbad hy
    subst hx
    rcases hr1.2 with ⟨_, hB⟩ | ⟨z, _⟩
    · refine Tm_ob (b_block (d := d) hB.1) (fun r hr => ?_)
      obtain ⟨u, ρ2⟩ := r
      have hr : ρ2 = r1.2 := hr
      subst hr
      exact ifNb (d := d + 1) (L := upd (upd (upd (upd (fun _ => 0) 1 33) 2 (N 5)) 3 u) 4 0) hB hF1 hN he (by omega) (by omega) (by omega) hM hN2'
    · exact absurd z t1
  rcases hr1.2 with ⟨z, _⟩ | ⟨_, hS1⟩
  · exact absurd t1 z
  have hu4 := hu.2.2.2 (by rw [t1.1]; decide)
  have hZ1 := PZ_fr2 hZ hS1 hr1.1 hZ.2.2.1.2
  rcases hb_any hG with ⟨h8, hy⟩ | ⟨t, h8, hG⟩
  · have hx := hbad hy
    subst hx
    refine Tm_ob (H0 _ lp (o + 1) _ _ _ _ s none h8 r1.2 (upd (fun _ => 0) 1 (N 1)) d M P hZ1 h1 hM hP (by omega) (by omega) hdd (by rw [upd_same]; exact hN)) (fun r8 hr8 => ?_)
    obtain ⟨⟨m, hm, hmk, hMm⟩, hF8⟩ := hr8
    exact ifNb (d := d + 1) (L := upd (upd (upd (upd (fun _ => 0) 1 33) 2 (N 5)) 3 r8.1) 4 0) hm (FrZ_tr hF1 hF8) hN he (by omega) (by omega) (by omega) hMm hN2'
  obtain ⟨⟨b1, b2, b3, b4, b5, b6, b7, b8, b9, b10⟩, _⟩ := gs_mo f _ _ _ _ _ _ _ _ _ _ _ t M (by decide) hu.2.1 hv hZ.2.2.2.2.1 h8 h1 hM (fun _ z => absurd rfl z) (fun z => absurd z (by decide))
  refine Tm_ob (H0 _ lp (o + 1) _ _ _ _ s (some t) h8 r1.2 (upd (fun _ => 0) 1 (N 1)) d M P hZ1 h1 hM hP (by omega) (by omega) hdd (by rw [upd_same]; exact hN)) (fun r8 hr8 => ?_)
  obtain ⟨hZ8, hr81, hF8⟩ := hr8
  have hF8 := FrZ_tr hF1 hF8
  rw [hr81, hN5]
  refine Tm_ob (p_nd (M := M) (P := P) (w := E.2.2.2.1) hZ8.1 (by omega) (by omega)) (fun r9 hr9 => ?_)
  obtain ⟨hr91, hS9, hF9⟩ := hr9
  have hZ9 := PZ_fr2 hZ8 hS9 hF9 hZ8.2.2.1.2
  have hF9 := FrZ_tr hF8 (FrZ_of hF9)
  have j1 : upd N 6 r9.1 1 = nI e := by rw [upd_other (by decide)]; exact hN
  have j2 : upd N 6 r9.1 2 = N 2 := by rw [upd_other (by decide)]
  have j6 : upd N 6 r9.1 6 = nI t.2.2.2.2.1.1 := by rw [upd_same]; exact hr91
  have hb3 : (bIf l e t.2.2.2.2.1.1 c5 t).1 = t.2.2.2.2.1.1 + 1 ∧ (bIf l e t.2.2.2.2.1.1 c5 t).2.1 = t.2.2.2.2.1.2.1 := by
    unfold bIf
    by_cases l0 : l = 0
    · rw [if_pos l0]; exact ⟨rfl, rfl⟩
    · rw [if_neg l0]; exact ⟨rfl, rfl⟩
  have hut := tkN_b T n t.1 b2
  -- the node lies: go on
  have six : ∀ (ρ' : MS) (N' : Nat → Int32), PZ T n MD E lp (o + 1) t.1 t.2.1 (bIf l e t.2.2.2.2.1.1 c5 t) t.2.2.2.2.2 ρ' → FrZ M P E.2.2.2.1 σ ρ' → N' 1 = nI e → N' 6 = nI t.2.2.2.2.1.1 → Tm (fun k => x_GS k (d + 1) 2 6 N' ρ') (PoZ T n MD E lp o M P K σ x) := fun ρ' N' hZ' hF' k1 k6 => by
    refine if6 hZ' hF' k1 k6 he (by omega) (by omega) (by omega) (fun h41 N'' i1 i2 => ?_) (fun h41 t0 => ?_) (fun h41 t0 ρ'' N'' hF'' hZ'' i1 i2 i3 i4 => ?_)
    · rw [if_neg h41] at hG
      exact hno _ (Option.some.inj hG).symm ρ' N'' i1 i2 hF' hZ'
    · rw [if_pos h41] at hG
      rcases hT_any hG with ⟨_, hy⟩ | ⟨z, _⟩
      · exact hbad hy
      · exact absurd t0 z
    · rw [if_pos h41] at hG
      rcases hT_any hG with ⟨z, _⟩ | ⟨_, hG⟩
      · exact absurd z t0
      exact hyes _ _ _ _ _ hG ρ'' N'' hF'' hZ'' i1 i2 i3 i4 (by omega) (by omega) (by omega) (by omega) (by omega) (by omega) (by omega) hut.2.1
  refine Tm_ite (fun z => ?_) (fun z => ?_)
  · have l0 := hN4.mp z
    obtain ⟨k2, l1, l2⟩ := hN2 l0
    generalize upd N 6 r9.1 = N' at j1 j2 j6
    refine Tm_suc (fun k => by rw [xS_2]) ?_
    show Tm (fun k => if ¬ (N' 2 < 0 ∨ 70000 ≤ (N' 2).toNatClampNeg) then x_GS k (d + 1) 2 6 N' (mSet r9.2 9 (N' 2).toNatClampNeg (N' 6)) else none) _
    rw [j2, k2]
    refine Tm_chk (n_in (by omega) (by omega)) ?_
    rw [n_cl (p := l) (by omega), j6]
    have eb : bIf l e t.2.2.2.2.1.1 c5 t = bSet (bNode t.2.2.2.2.1 33 c5 (hd t.2.2.2.1) 0) 9 l (nI t.2.2.2.2.1.1) := if_neg l0
    have hFs : FrM M P E.2.2.2.1 r9.2 (mSet r9.2 9 l (nI t.2.2.2.2.1.1)) := FrM_set (by decide) (by decide) (Or.inr l1) _
    exact six _ N' (by rw [eb]; exact PZ_fr2 hZ9 (PS_set hZ9.1 (by decide) (by decide) _) hFs hZ9.2.2.1.2) (FrZ_tr hF9 (FrZ_of hFs)) j1 j6
  · have l0 : l = 0 := Decidable.byContradiction (fun y => z (hN4.mpr y))
    rw [hN]
    refine Tm_chk (n_in (by omega) (by omega)) ?_
    rw [n_cl (p := e) (by omega)]
    have eb : bIf l e t.2.2.2.2.1.1 c5 t = bSet (bNode t.2.2.2.2.1 33 c5 (hd t.2.2.2.1) 0) 5 e (nI t.2.2.2.2.1.1) := if_pos l0
    show Tm (fun k => x_GS k (d + 1) 2 6 (upd N 6 r9.1) (mSet r9.2 5 e r9.1)) _
    have hFs : FrM M P E.2.2.2.1 r9.2 (mSet r9.2 5 e (nI t.2.2.2.2.1.1)) := FrM_set (by decide) (by decide) (Or.inr he) _
    generalize upd N 6 r9.1 = N' at j1 j2 j6
    rw [hr91]
    exact six _ N' (by rw [eb]; exact PZ_fr2 hZ9 (PS_set hZ9.1 (by decide) (by decide) _) hFs hZ9.2.2.1.2) (FrZ_tr hF9 (FrZ_of hFs)) j1 j6
end STM
