/-! Ifs of the reference. -/
section STM
variable {T : Nat → Int32} {n : Nat} {E : En} {o M P lp : Nat} {MD : Nat → Nat → Nat} {σ : MS}
theorem ifs_loop {d e K : Nat} {x : Option ST} (hdd : 3 * (20 - (o + 1)) + 1 ≤ d) (he : M ≤ e) (h1 : 1 ≤ M) : ∀ (f : Nat), (∀ f', f' < f → SB0 T n MD f') → ∀ (q v l : Nat) (b : BT) (s : SB) (y : Option ST), GS T n MD f 3 E lp (o + 1) q v 0 e l b s = some y → ∀ (ρ : MS) (N : Nat → Int32), PZ T n MD E lp (o + 1) q v b s ρ → FrZ M P E.2.2.2.1 σ ρ → N 1 = nI e → N 3 = 1 → (N 4 = 0 ↔ ¬ l = 0) → (¬ l = 0 → N 2 = nI l ∧ M ≤ l ∧ l < b.1) → e < b.1 → M ≤ b.1 → P ≤ b.2.1 → b.1 + (n + 1 - q) + 967 + (d + 1) ≤ 70000 → b.2.1 + (n - q) ≤ 70000 → b.1 + (n + 1 - q) + 964 + (d + 1) ≤ K → (y = none → x = none) →
    (∀ t, y = some t → ∀ (ρ' : MS) (N' : Nat → Int32), N' 1 = nI e → N' 2 = nI t.2.2.2.1 → FrZ M P E.2.2.2.1 σ ρ' → PZ T n MD E lp (o + 1) t.1 t.2.1 t.2.2.2.2.1 t.2.2.2.2.2 ρ' → Tm (fun k => x_GS k (d + 1) 2 10 N' ρ') (PoZ T n MD E lp o M P K σ x)) → Tm (fun k => x_GS k (d + 1) 2 2 N ρ) (PoZ T n MD E lp o M P K σ x)
  | 0 => fun _ q v l b s y hG => by simp only [GS] at hG; cases hG
  | f + 1 => fun H q v l b s y hG ρ N hZ hF hN hN3 hN4 hN2 he2 hM hP hn hp hK hbad hno => by
    have ih := ifs_loop (K := K) (x := x) hdd he h1 f (fun f' h => H f' (by omega))
    have H0 := H f (by omega)
    simp only [GS] at hG
    have hS := hZ.1
    have hq := PS_q hS
    have hv := PS_v hS
    have hu := tkN_b T n q hq.1
    have hN2' : N 4 = 0 → ∃ l, N 2 = nI l ∧ M ≤ l ∧ l < 70000 := fun z => by
      have h := hN2 (hN4.mp z)
      exact ⟨l, h.1, h.2.1, by have := h.2.2; omega⟩
    -- a condition was read
    have four : ∀ (c : ST) (c5 : Int32) (ρ' : MS) (N' : Nat → Int32), c5 = (if c.2.2.2.1 = 0 then -3 else nI c.2.2.2.1) → hW T n 40 c.1 (fun q2 => hb (GS T n MD f 0 E lp (o + 1) q2 c.2.1 (nI e) 0 0 c.2.2.2.2.1 s) (fun t => if tkK T n t.1 = 41 then hT T n t.1 (fun q3 => GS T n MD f 3 E lp (o + 1) q3 t.2.1 0 e t.2.2.2.2.1.1 (bIf l e t.2.2.2.2.1.1 (if c.2.2.2.1 = 0 then -3 else nI c.2.2.2.1) t) t.2.2.2.2.2) else some (some (t.1, t.2.1, 0, t.2.2.2.2.1.1, bIf l e t.2.2.2.2.1.1 (if c.2.2.2.1 = 0 then -3 else nI c.2.2.2.1) t, t.2.2.2.2.2)))) = some y → PZ T n MD E lp (o + 1) c.1 c.2.1 c.2.2.2.2.1 s ρ' → FrZ M P E.2.2.2.1 σ ρ' → N' 1 = nI e → N' 2 = N 2 → N' 4 = N 4 → N' 5 = c5 → q ≤ c.1 → c.1 ≤ n → b.1 ≤ c.2.2.2.2.1.1 → c.2.2.2.2.1.1 + q ≤ b.1 + c.1 → b.2.1 ≤ c.2.2.2.2.1.2.1 → c.2.2.2.2.1.2.1 + q ≤ b.2.1 + c.1 → Tm (fun k => x_GS k (d + 1) 2 4 N' ρ') (PoZ T n MD E lp o M P K σ x) := fun c c5 ρ' N' hc hG hZ' hF' k1 k2 k4 k5 a1 a2 a3 a4 a5 a6 => by
      rw [← hc] at hG
      refine if4 H0 hG hZ' hF' k1 k5 (by rw [k4]; exact hN4) (fun z => by rw [k2]; exact ⟨(hN2 z).1, (hN2 z).2.1, by have := (hN2 z).2.2; omega⟩) he (by omega) h1 (by omega) (by omega) (by omega) (by omega) hdd (by omega) hbad hno ?_
      intro q3 v3 m b3 s3 hG3 ρ3 N3 hF3 hZ3 i1 i2 i3 i4 m1 m2 c1 c2 c3 c4 c5' c6
      exact ih q3 v3 m b3 s3 y hG3 ρ3 N3 hZ3 hF3 i1 i3 ⟨fun _ => by omega, fun _ => i4⟩ (fun _ => ⟨i2, m1, m2⟩) (by omega) (by omega) (by omega) (by omega) (by omega) (by omega) hbad hno
    have three : ∀ N' : Nat → Int32, ¬ (l = 0 ∧ tkK T n q = 63) → N' 1 = nI e → N' 2 = N 2 → N' 4 = N 4 → Tm (fun k => x_GS k (d + 1) 2 3 N' ρ) (PoZ T n MD E lp o M P K σ x) := fun N' hc k1 k2 k4 => by
      rw [if_neg hc] at hG
      refine Tm_suc (fun k => by rw [xS_2]) ?_
      rcases hb_any hG with ⟨h7, hy⟩ | ⟨c, h7, hG⟩
      · have hx := hbad hy
        subst hx
        rcases lb_any h7 with ⟨h8, _⟩ | ⟨_, _, h⟩
        · refine Tm_ob (p_exp (M := M) (P := P) h8 hS h1 hM hP (by omega) (by omega)) (fun r hr => ?_)
          obtain ⟨⟨m1, hm, hmk, hMm⟩, _, hF5⟩ := hr
          exact if4b hm (FrZ_tr hF (FrZ_of hF5)) (by rw [upd_other (by decide)]; exact k1) he (by omega) (by omega) (by omega) hMm (fun z => by rw [upd_other (by decide), k2]; exact hN2' (by rw [← k4, ← z, upd_other (by decide)]))
        · cases h
      obtain ⟨t, h8, h7⟩ := lb_s h7
      obtain ⟨⟨a1, a2, a3, a4, a5, a6, a7, a8⟩, a9⟩ := mo_of (M := M) hq.1 hv h8 hM h1 trivial (fun h => h) (fun h => h)
      refine Tm_ob (p_exp (M := M) (P := P) h8 hS h1 hM hP (by omega) (by omega)) (fun r hr => ?_)
      obtain ⟨hS5, hr51, hF5⟩ := hr
      cases h7
      exact four _ (nI t.2.2.2.1) r.2 _ (if_neg (by omega : ¬ t.2.2.2.1 = 0)).symm hG (PZ_fr2 hZ hS5 hF5 hZ.2.2.1.2) (FrZ_tr hF (FrZ_of hF5)) (by rw [upd_other (by decide)]; exact k1) (by rw [upd_other (by decide)]; exact k2) (by rw [upd_other (by decide)]; exact k4) (by rw [upd_same]; exact hr51) a1 a2 a5 a6 a7 a8
    refine Tm_suc (fun k => by rw [xS_2]) ?_
    show Tm (fun k => if N 3 = 0 then x_GS k (d + 1) 2 10 N ρ else (if ρ.1 10 = 0 then (if N 4 = 0 then x_GS k (d + 1) 2 3 (upd N 5 (-1)) ρ else ob (x_isWord k 0 (upd (fun _ => 0) 1 31) ρ) (fun r4 => if r4.1 = 0 then x_GS k (d + 1) 2 3 (upd N 5 (-1)) r4.2 else ob (x_take k 0 (fun _ => 0) r4.2) (fun r6 => x_GS k (d + 1) 2 4 (upd N 5 (-3)) r6.2))) else x_GS k (d + 1) 2 10 N ρ)) _
    refine Tm_no (by rw [hN3]; decide) ?_
    refine Tm_yes (PS_ok hS) ?_
    have u1 : ∀ z : Int32, upd N 5 z 1 = nI e := fun z => by rw [upd_other (by decide)]; exact hN
    have u2 : ∀ z : Int32, upd N 5 z 2 = N 2 := fun z => by rw [upd_other (by decide)]
    have u4 : ∀ z : Int32, upd N 5 z 4 = N 4 := fun z => by rw [upd_other (by decide)]
    refine Tm_ite (fun z => three _ (fun c => (hN4.mp z) c.1) (u1 _) (u2 _) (u4 _)) (fun z => ?_)
    have l0 : l = 0 := Decidable.byContradiction (fun y => z (hN4.mpr y))
    refine Tm_ob (p_word hS (s := 31) (by decide) rfl) (fun r1 hr1 => ?_)
    obtain ⟨u, τ⟩ := r1
    obtain ⟨h3, hr1⟩ := hr1
    have h3 : τ = ρ := h3
    subst h3
    refine Tm_ite (fun z1 => three _ (fun c => hr1.mpr c.2 z1) (u1 _) (u2 _) (u4 _)) (fun z1 => ?_)
    have hK63 := hr1.mp z1
    rw [if_pos ⟨l0, hK63⟩] at hG
    refine Tm_ob (p_take (M := M) (P := P) (w := E.2.2.2.1) hS _) (fun r4 hr4 => ?_)
    rcases hb_any hG with ⟨h7, hy⟩ | ⟨c, h7, hG⟩
    · have hx := hbad hy
      subst hx
      rcases hT_any h7 with ⟨t4, _⟩ | ⟨_, h⟩
      · rcases hr4.2 with ⟨_, hB⟩ | ⟨w, _⟩
        · exact if4b hB (FrZ_tr hF (FrZ_of hr4.1)) (u1 _) he (by omega) (by omega) (by omega) hM (fun w => absurd ((u4 _).symm.trans w) z)
        · exact absurd t4 w
      · cases h
    obtain ⟨t4, h7⟩ := hT_s h7
    rcases hr4.2 with ⟨w, _⟩ | ⟨_, hS4⟩
    · exact absurd w t4
    cases h7
    exact four _ (-3) r4.2 _ rfl hG (PZ_fr2 hZ hS4 hr4.1 hZ.2.2.1.2) (FrZ_tr hF (FrZ_of hr4.1)) (u1 _) (u2 _) (u4 _) upd_same hu.1 hu.2.1 (Nat.le_refl _) (by dsimp only; omega) (Nat.le_refl _) (by dsimp only; omega)
end STM
