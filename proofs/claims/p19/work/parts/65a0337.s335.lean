variable {yf : Nat × Nat}
/-! What holds of the reference between calls; program keeps it. -/
/-- values, tape, words -/
def RfB (τ : MS) : Prop := (∃ (g : Nat → Prop) (l : List Nat) (B h X : Nat), MI 0 X g l B h τ) ∧ (∀ i, i < 1380 → τ.2.2 33 i = 0) ∧ TyT (τ.2.2 2) ∧ PA τ ∧ τ.2.2 1 = mT mWords 264 ∧ τ.1 68 = 0 ∧ (∃ n, TpO (τ.2.2 3) n τ) ∧ (∃ q, τ.1 120 = nI q ∧ q ≤ 12000) ∧ ∃ V, τ.1 73 = nI V ∧ V ≤ 8
/-- a program stands; where its run stands -/
def RfQ (TX u p : Nat → Int32) (nX : Nat) (g : PRG) (t : ST) (KB : Nat) (S : Nat → Nat → Nat → Nat → Prop) (j : Nat) (τ : MS) : Prop := (nX ≤ 32768 ∧ τ.1 115 = nI nX ∧ ∀ i, i < nX → τ.2.2 53 i = TX i) ∧ gPrg TX nX (g0 TX nX u p) = some (Sum.inr (g, t)) ∧ PgO g t KB S ∧ PG g.2.1.1 g.2.1.2.2.2.2.2.2 t.2.2.2.2.1 τ ∧ VwO g.2.1.1 g.2.1.2.2.2.2.2.2 t.2.2.2.2.1 τ ∧ ∃ (C K : Nat → Int32) (z0 x66 : Int32) (sd : Int64), RIc (TPg g t KB) (FNg g) C K (hd t.2.2.2.1) z0 x66 0 sd τ ∧ (¬ τ.1 112 = 0 → ∃ m, m ≤ 20000 * j ∧ PSt (TPg g t KB) (FNg g) S C K (hd t.2.2.2.1) z0 x66 0 sd m τ)
def RfP (j : Nat) (τ : MS) : Prop := ∃ TX u p nX g t KB S, RfQ TX u p nX g t KB S j τ
/-- between calls -/
def RfI (j : Nat) (τ : MS) : Prop := RfB τ ∧ ((τ.1 111 = 0 ∧ τ.1 112 = 0) ∨ (¬ τ.1 111 = 0 ∧ RfP j τ))
section RFS
variable {T : Nat → Nat → Int32} {FN : Nat → Nat → Prop} {σ ρ ω : MS} {gl : List Gn} {pr : Nat → Nat} {b : BT}
theorem Bz_x (h : Bz T FN ρ) (hn : ∀ j, j = 22 ∨ j = 24 ∨ j = 30 ∨ j = 44 → ω.1 j = ρ.1 j) (hr : ∀ a, 4 ≤ a → a ≤ 21 → ω.2.2 a = ρ.2.2 a) : Bz T FN ω := by
  obtain ⟨b1, b2, b3⟩ := h
  refine ⟨STb_b b1 hn (fun a i h => by rw [hr a (by omega) (by omega)]), fun a i h1 h2 h3 => by rw [hr a (by omega) (by omega)]; exact b2 a i h1 h2 h3, fun i => ?_⟩
  rw [kC_r (hr 20 (by decide) (by decide)) (hr 21 (by decide) (by decide)) (hn 30 (by omega))]; exact b3 i
theorem PG_x (h : PG gl pr b ρ) (hn : ∀ j, j = 22 ∨ j = 24 ∨ j = 25 → ω.1 j = ρ.1 j) (hr : ∀ a, a = 1 ∨ (4 ≤ a ∧ a ≤ 18) → ω.2.2 a = ρ.2.2 a) : PG gl pr b ω := by
  obtain ⟨p1, ⟨q1, q2, q3, q4, q5⟩, ⟨g1, g2, g3⟩, p4⟩ := h
  refine ⟨(hr 1 (by omega)).trans p1, ⟨(hn 22 (by omega)).trans q1, q2, (hn 24 (by omega)).trans q3, fun j h4 h9 i hi hi2 => ?_, fun i hi => ?_⟩, ⟨(hn 25 (by omega)).trans g1, g2, ?_⟩, ?_⟩
  · rw [hr j (by omega)]; exact q4 j h4 h9 i hi hi2
  · rw [hr 12 (by omega)]; exact q5 i hi
  · rw [hr 13 (by omega), hr 14 (by omega), hr 15 (by omega), hr 16 (by omega)]; exact g3
  · rw [hr 18 (by omega)]; exact p4
/-- what the call program leaves as it is -/
def FrG (σ ω : MS) : Prop := (∀ j, ¬ (j = 2 ∨ (4 ≤ j ∧ j ≤ 13) ∨ j = 22 ∨ j = 24 ∨ j = 25 ∨ j = 30 ∨ j = 31 ∨ j = 37 ∨ j = 38 ∨ (42 ≤ j ∧ j ≤ 48) ∨ j = 52 ∨ j = 110) → ω.1 j = σ.1 j) ∧ ω.2.1 = σ.2.1 ∧ ∀ a, ¬ ((3 ≤ a ∧ a ≤ 27) ∨ a = 56) → ω.2.2 a = σ.2.2 a
/-- values, words, what isn't the tape's -/
theorem RfB_fr (h : RfB σ) (hn : ∀ j, j = 54 ∨ j = 55 ∨ j = 63 ∨ j = 72 ∨ j = 68 ∨ j = 120 → ω.1 j = σ.1 j) (hr : ∀ a, (28 ≤ a ∧ a ≤ 40) ∨ a = 1 ∨ a = 2 → ω.2.2 a = σ.2.2 a) (hA : PA ω) (h4 : ω.1 4 = 0) (h73 : ∃ V, ω.1 73 = nI V ∧ V ≤ 8) : RfB ω := by
  obtain ⟨⟨g, l, B, h', X, m⟩, r2, r3, r4, r5, r6, r7, r8, r9⟩ := h
  refine ⟨⟨g, l, B, h', X, MI_x m (hn 54 (by omega)) (hn 55 (by omega)) (hn 63 (by omega)) (hn 72 (by omega)) (fun a h1 h2 => hr a (by omega))⟩, fun i hi => by rw [hr 33 (by omega)]; exact r2 i hi, by rw [hr 2 (by omega)]; exact r3, hA, (hr 1 (by omega)).trans r5, (hn 68 (by omega)).trans r6, ⟨0, ⟨h4, Nat.zero_le _⟩, rfl, fun i hi => absurd hi (Nat.not_lt_zero _)⟩, ?_, h73⟩
  rw [hn 120 (by omega)]; exact r8
/-- the same program was read again: the run is left alone -/
theorem AE_pg {e0 : Int32} (B1 : Bz T FN σ) (B2 : Bz T FN ω) (hF : FrG σ ω) (h1 : σ.1 110 = e0) (h2 : ω.1 110 = e0) (h68 : σ.1 68 = 0) (h33 : ∀ i, i < 1380 → σ.2.2 33 i = 0) : AEq σ ω := by
  obtain ⟨f1, f2, f3⟩ := hF
  have c22 : (σ.1 22).toNatClampNeg = LNo T % 70001 := by rw [B1.1.2.2.2.1, n_cl (p := LNo T % 70001) (by omega)]
  have c24 : (σ.1 24).toNatClampNeg = LPo T % 70001 := by rw [B1.1.2.2.2.2.1, n_cl (p := LPo T % 70001) (by omega)]
  have c30 : (σ.1 30).toNatClampNeg = CNo T % 42 := by rw [B1.1.2.2.2.2.2.1, n_cl (p := CNo T % 42) (by omega)]
  have c44 : (σ.1 44).toNatClampNeg = SNo T % 402 := by rw [B1.1.2.2.2.2.2.2, n_cl (p := SNo T % 402) (by omega)]
  refine ⟨fun j hj => ?_, (f1 68 (by decide)).trans h68, fun a i h1 h2 _ => by rw [f3 a (by omega)], fun a i hi => ?_, f3 2 (by decide), fun a i z => ?_, fun i hi => by rw [f3 33 (by decide)]; exact h33 i hi, by rw [f2], by rw [f2]⟩
  · by_cases e : j = 22
    · rw [e, B1.1.2.2.2.1, B2.1.2.2.2.1]
    by_cases e : j = 24
    · rw [e, B1.1.2.2.2.2.1, B2.1.2.2.2.2.1]
    by_cases e : j = 30
    · rw [e, B1.1.2.2.2.2.2.1, B2.1.2.2.2.2.2.1]
    by_cases e : j = 44
    · rw [e, B1.1.2.2.2.2.2.2, B2.1.2.2.2.2.2.2]
    by_cases e : j = 110
    · rw [e, h1, h2]
    exact f1 j (by omega)
  · rcases hi with ⟨c3, hu⟩ | c1 | c2 | c4
    · unfold StU at hu
      by_cases e20 : a = 20
      · subst e20
        have h6 : i < 2520 ∧ i % 60 < hdU (σ.1 30) (σ.2.2 21) (i / 60) := by omega
        rw [← kC_of (σ := σ) h6.1 h6.2, ← kC_of (σ := ω) h6.1 (by rw [Bz_hd B1 B2]; exact h6.2), B1.2.2, B2.2.2]
      rw [c30, c44] at hu
      by_cases e10 : a = 10 ∨ a = 11
      · rw [B1.1.1 a i (by omega) (by omega) ⟨fun z => by omega, fun _ => by omega⟩, B2.1.1 a i (by omega) (by omega) ⟨fun z => by omega, fun _ => by omega⟩]
      · rw [B1.2.1 a i (by omega) (by omega) (by omega), B2.2.1 a i (by omega) (by omega) (by omega)]
    · rw [c22] at c1
      rw [B1.1.1 a i (by omega) (by omega) ⟨fun z => by omega, fun z => by omega⟩, B2.1.1 a i (by omega) (by omega) ⟨fun z => by omega, fun z => by omega⟩]
    · rw [c24] at c2
      rw [c2.1, B1.1.2.2.1 i c2.2, B2.1.2.2.1 i c2.2]
    · obtain ⟨e, i1, i2⟩ := c4
      rw [c30] at i1
      rw [B1.2.1 18 (i / 8) (by omega) (by omega) (by omega)] at i2
      subst e
      have h19 : (19 : Nat) ≠ 20 ∧ (19 ≤ 18 → i < CNo T % 42) ∧ (19 = 19 → i < 8 * (CNo T % 42) ∧ i % 8 < (T 18 (i / 8)).toNatClampNeg) ∧ (19 = 21 → i ≤ CNo T % 42) := ⟨by decide, fun z => absurd z (by decide), fun _ => ⟨i1, i2⟩, fun z => absurd z (by decide)⟩
      rw [B1.2.1 19 i (by decide) (by decide) h19, B2.2.1 19 i (by decide) (by decide) h19]
  · have wa : ω.2.2 a = σ.2.2 a := by
      rcases z with z | z
      · exact f3 a (by omega)
      · exact f3 a (by omega)
    refine ⟨?_, Or.inr ⟨f3 28 (by decide), by rw [wa]⟩⟩
    unfold szV
    rw [f3 28 (by decide), wa]
theorem Pg1_fr {n : Nat} (h : Pg1 σ n ρ) : (∀ j, ¬ (j = 2 ∨ j = 11) → ρ.1 j = σ.1 j) ∧ ρ.2.1 = σ.2.1 ∧ ∀ a, a ≠ 56 → ρ.2.2 a = σ.2.2 a := ⟨fun j hj => by rw [h.1, upd_other (by omega), upd_other (by omega)], h.2.1, h.2.2.1⟩
/-- program -/
theorem r_program {j : Nat} (h : RfI j σ) (L : Nat → Int32) : Tm (fun k => x_program k 0 L σ) (fun r => RfI (j + 1) r.2 ∧ (∃ n, TpO (σ.2.2 3) n σ ∧ ((∃ z, gPrg (σ.2.2 3) n (g0 (σ.2.2 3) n (σ.2.2 10) (σ.2.2 11)) = some (Sum.inr z) ∧ ¬ r.2.1 111 = 0 ∧ r.1 = nI z.2.2.2.2.2.2.1) ∨ (∃ z, gPrg (σ.2.2 3) n (g0 (σ.2.2 3) n (σ.2.2 10) (σ.2.2 11)) = some (Sum.inl z) ∧ (r.2.1 111 = 0 ↔ σ.1 111 = 0) ∧ r.1 = -1 - nI z.2 ∧ r.2.1 11 = nI z.1))) ∧ r.2.1 4 = 0) := by
  obtain ⟨hB, hP⟩ := h
  obtain ⟨n, tp⟩ := id hB.2.2.2.2.2.2.1
  obtain ⟨tn, _, tb⟩ := id tp
  have hA := hB.2.2.2.1
  have hW := hB.2.2.2.2.1
  obtain ⟨y, hG⟩ := gPrg_tot (σ.2.2 3) n (σ.2.2 10) (σ.2.2 11)
  cases y with
  | inr z =>
    obtain ⟨g, t⟩ := z
    refine Tm_mono (s_prgY tn hW hA hG L) (fun r hr => ?_)
    obtain ⟨ρ1, ρ, h1, hR, hF, yr, ⟨y1, ⟨y2, y3, y4, y5, y6⟩, y7, y8, y9⟩, y11⟩ := hr
    obtain ⟨p1, p2, p3⟩ := Pg1_fr h1
    obtain ⟨KB, S, ok⟩ := prg_ok tn.2 tb hG
    obtain ⟨bz, pg, h110, h44, _⟩ := PR_bz hR SmP_rf ok
    have nm : ∀ j, ¬ (j = 2 ∨ (4 ≤ j ∧ j ≤ 13) ∨ j = 22 ∨ j = 24 ∨ j = 25 ∨ j = 30 ∨ j = 31 ∨ j = 37 ∨ j = 38 ∨ (42 ≤ j ∧ j ≤ 48) ∨ j = 52 ∨ j = 110 ∨ j = 115 ∨ j = 111 ∨ j = 112 ∨ j = 73) → r.2.1 j = σ.1 j := fun j hj => by rw [y1 j (by omega), hF.1 j (by omega), p1 j (by omega)]
    have rw' : ∀ a, ¬ ((3 ≤ a ∧ a ≤ 27) ∨ a = 56 ∨ a = 53) → r.2.2.2 a = σ.2.2 a := fun a ha => by rw [y8 a (by omega), hF.2.2.1 a (by omega), p3 a (by omega)]
    have hB' : RfB r.2 := RfB_fr hB (fun j hj => nm j (by omega)) (fun a ha => rw' a (by omega)) (fun p hp => by rw [y8 18 (by decide)]; exact hR.2.2.2.2.2.2 p hp) y3 ⟨0, y6, by decide⟩
    have bzr : Bz (TPg g t KB) (FNg g) r.2 := Bz_x bz (fun j hj => y1 j (by omega)) (fun a h1 h2 => y8 a (by omega))
    refine ⟨⟨hB', Or.inr ⟨by rw [y4]; decide, σ.2.2 3, σ.2.2 10, σ.2.2 11, n, g, t, KB, S, ⟨tn.2, y2, y9⟩, hG, ok, PG_x pg (fun j hj => y1 j (by omega)) (fun a ha => y8 a (by omega)), ⟨0, y6, by decide, fun v hv => absurd hv (Nat.not_lt_zero _)⟩, r.2.2.2 2, fun _ => 0, r.2.2.2 30 0, r.2.1 66, r.2.2.1 113, ⟨hB'.1, bzr, hB'.2.1, ⟨hB'.2.2.1, rfl⟩, trivial, (y1 110 (by decide)).trans h110, fun _ => rfl, rfl, hB'.2.2.2.2.2.1, rfl⟩, fun z => absurd y5 z⟩⟩, ⟨n, tp, Or.inl ⟨(g, t), hG, (by rw [y4]; decide), yr.trans h44⟩⟩, y3⟩
  | inl yf =>
    rcases hP with ⟨h111, h112⟩ | ⟨h111, TX, u, p, nX, g, t, KB, S, ⟨hX, h115, h53⟩, hp, ok, pg, vw, C, K, z0, x66, sd, ri, ps⟩
    · refine Tm_mono (s_prgN tn hW hA h111 hG L) (fun r hr => ?_)
      obtain ⟨⟨yr, yc⟩, ρ1, ρ, h1, hF, y1, y4, y7, y8⟩ := hr
      obtain ⟨p1, p2, p3⟩ := Pg1_fr h1
      have nm : ∀ j, ¬ (j = 2 ∨ (4 ≤ j ∧ j ≤ 13) ∨ j = 22 ∨ j = 24 ∨ j = 25 ∨ j = 30 ∨ j = 31 ∨ j = 37 ∨ j = 38 ∨ (42 ≤ j ∧ j ≤ 48) ∨ j = 52 ∨ j = 110) → r.2.1 j = σ.1 j := fun j hj => by rw [y1 j (by omega), hF.1 j (by omega), p1 j (by omega)]
      have rw' : ∀ a, ¬ ((3 ≤ a ∧ a ≤ 27) ∨ a = 56) → r.2.2.2 a = σ.2.2 a := fun a ha => by rw [y8 a (by omega), hF.2.2.1 a (by omega), p3 a (by omega)]
      have pa1 : PA ρ1 := fun p hp => by rw [p3 18 (by decide)]; exact hA p hp
      refine ⟨⟨RfB_fr hB (fun j hj => nm j (by omega)) (fun a ha => rw' a (by omega)) (fun p hp => by rw [y8 18 (by decide)]; exact hF.2.2.2 pa1 p hp) y4 (by rw [nm 73 (by decide)]; exact hB.2.2.2.2.2.2.2.2), Or.inl ⟨(nm 111 (by decide)).trans h111, (nm 112 (by decide)).trans h112⟩⟩, ⟨n, tp, Or.inr ⟨yf, hG, (by rw [nm 111 (by decide)]), yr, yc⟩⟩, y4⟩
    · refine Tm_mono (s_prgA tn hW hA h111 hX h115 h53 hp hG L) (fun r hr => ?_)
      obtain ⟨⟨yr, yc⟩, ρ1, ρ2, ρ3, ρ, g', t', h1, hF2, hL, hs, hR, hF, y1, y4, y7, y8⟩ := hr
      obtain ⟨p1, p2, p3⟩ := Pg1_fr h1
      obtain ⟨l1, l2, l3, l4, l5⟩ := hL
      have nm : ∀ j, ¬ (j = 2 ∨ (4 ≤ j ∧ j ≤ 13) ∨ j = 22 ∨ j = 24 ∨ j = 25 ∨ j = 30 ∨ j = 31 ∨ j = 37 ∨ j = 38 ∨ (42 ≤ j ∧ j ≤ 48) ∨ j = 52 ∨ j = 110) → r.2.1 j = σ.1 j := fun j hj => by rw [y1 j (by omega), hF.1 j (by omega), l2 j (by omega), hF2.1 j (by omega), p1 j (by omega)]
      have rw' : ∀ a, ¬ ((3 ≤ a ∧ a ≤ 27) ∨ a = 56) → r.2.2.2 a = σ.2.2 a := fun a ha => by rw [y8 a, hF.2.2.1 a (by omega), l4 a (by omega), hF2.2.2.1 a (by omega), p3 a (by omega)]
      have lg : r.2.2.1 = σ.2.1 := by rw [y7, hF.2.1, l3, hF2.2.1, p2]
      have fg : FrG σ r.2 := ⟨fun j hj => nm j (by omega), lg, fun a ha => rw' a ha⟩
      obtain ⟨bz, pg', h110, h44, _⟩ := PR_bz hR hs ok
      have bzr : Bz (TPg g t KB) (FNg g) r.2 := Bz_x bz (fun j hj => y1 j (by omega)) (fun a h1 h2 => y8 a)
      have e110 : r.2.1 110 = hd t.2.2.2.1 := (y1 110 (by decide)).trans h110
      have hB' : RfB r.2 := RfB_fr hB (fun j hj => nm j (by omega)) (fun a ha => rw' a (by omega)) (fun p hp => by rw [y8 18]; exact hR.2.2.2.2.2.2 p hp) y4 (by rw [nm 73 (by decide)]; exact hB.2.2.2.2.2.2.2.2)
      have ae := AE_pg ri.2.1 bzr fg ri.2.2.2.2.2.1 e110 hB.2.2.2.2.2.1 hB.2.1
      refine ⟨⟨hB', Or.inr ⟨by rw [nm 111 (by decide)]; exact h111, TX, u, p, nX, g, t, KB, S, ⟨hX, (nm 115 (by decide)).trans h115, fun i hi => by rw [rw' 53 (by decide)]; exact h53 i hi⟩, hp, ok, PG_x pg' (fun j hj => y1 j (by omega)) (fun a ha => y8 a), VwO_c (nm 73 (by decide)) (rw' 54 (by decide)) (rw' 55 (by decide)) vw, C, K, z0, x66, sd, RIc_ae ae hB'.1 ri, fun z => ?_⟩⟩, ⟨n, tp, Or.inr ⟨yf, hG, (by rw [nm 111 (by decide)]), yr, yc⟩⟩, y4⟩
      rw [nm 112 (by decide)] at z
      obtain ⟨m, m1, m2⟩ := ps z
      have hU := (PSt_UT m2).1
      exact ⟨m, by omega, PSt_ae ok.1.1.1 ae hB'.1 (UT_k hU (nm 63 (by decide)) (nm 64 (by decide)) (nm 65 (by decide)) (rw' 28 (by decide)) (fun a h1 h2 => rw' a (by omega)) (kC_ae ae)) m2⟩
end RFS
