section JnS579
/-! The counts of the program that stands (reference): its own text's, over program. -/
section RNS
variable {σ : MS} {j n : Nat} {XE : XEt}
/-- the counts are those of the text kept, whoever reads it -/
def RN (σ : MS) : Prop := ¬ σ.1 111 = 0 → ∀ (TX u p : Nat → Int32) (nX : Nat) (g : PRG) (t : ST), nX ≤ 32768 → σ.1 115 = nI nX → (∀ i, i < nX → σ.2.2 53 i = TX i) → gPrg TX nX (g0 TX nX u p) = some (Sum.inr (g, t)) → σ.1 44 = nI t.2.2.2.2.2.1 ∧ σ.1 31 = nI g.2.2.2.2.1 ∧ σ.2.2 21 0 = nI t.2.1
theorem RN_k {τ : MS} (h : RN σ) (k : k9 (k9v σ) τ) : RN τ := by
  obtain ⟨k1, k2, k3, k4, k5, k6⟩ := k
  intro h1 TX u p nX g t hX h115 h53 hG
  have e6 : τ.2.2 53 = σ.2.2 53 := k6
  obtain ⟨a1, a2, a3⟩ := h (fun z => h1 (k3.trans z)) TX u p nX g t hX (k4.symm.trans h115) (fun i hi => by rw [← e6]; exact h53 i hi) hG
  exact ⟨k1.trans a1, k2.trans a2, k5.trans a3⟩
theorem PR_ct {T : Nat → Int32} {g : PRG} {t : ST} (hR : PR T n g t σ) : σ.1 44 = nI t.2.2.2.2.2.1 ∧ σ.1 31 = nI g.2.2.2.2.1 ∧ σ.2.2 21 0 = nI t.2.1 := by
  obtain ⟨⟨hPS, hPM, _, h44, h400, h10⟩, h110, ⟨h30, h40, h31, hpc⟩, ⟨_, _, hu⟩, hk, h17, hA⟩ := hR
  obtain ⟨⟨pt1, pt2, pt3, _⟩, _, hB, hV, hN, hF⟩ := hPS
  rw [hu] at hV
  obtain ⟨_, _, v21, _, v20⟩ := hV
  exact ⟨h44, h31, v21⟩
theorem SmP_ct {g g' : PRG} {t t' : ST} (s : SmP g t g' t') : nI t'.2.2.2.2.2.1 = nI t.2.2.2.2.2.1 ∧ nI g'.2.2.2.2.1 = nI g.2.2.2.2.1 ∧ nI t'.2.1 = nI t.2.1 := ⟨congrArg nI s.2.2.1, congrArg nI s.1.2.2.2.1, congrArg nI s.2.1.1⟩
theorem rn_program (h : RfJ XE j σ) (rn : RN σ) (tp : TpO (σ.2.2 3) n σ) (L : Nat → Int32) : Tm (fun k => x_program k 0 L σ) (fun r => RN r.2 ∧ (∀ z, gPrg (σ.2.2 3) n (g0 (σ.2.2 3) n (σ.2.2 10) (σ.2.2 11)) = some (Sum.inr z) → r.2.1 44 = nI z.2.2.2.2.2.2.1 ∧ r.2.1 31 = nI z.1.2.2.2.2.1 ∧ r.2.2.2 21 0 = nI z.2.2.1) ∧ ∀ y, gPrg (σ.2.2 3) n (g0 (σ.2.2 3) n (σ.2.2 10) (σ.2.2 11)) = some (Sum.inl y) → ¬ σ.1 111 = 0 → r.2.1 44 = σ.1 44 ∧ r.2.1 31 = σ.1 31 ∧ r.2.2.2 21 0 = σ.2.2 21 0) := by
  obtain ⟨hB, hP⟩ := h
  obtain ⟨tn, _, tb⟩ := id tp
  have hA := hB.2.2.2.1
  have hW := hB.2.2.2.2.1
  obtain ⟨y, hG⟩ := gPrg_tot (σ.2.2 3) n (σ.2.2 10) (σ.2.2 11)
  cases y with
  | inr z =>
    obtain ⟨g, t⟩ := z
    refine Tm_mono (s_prgY tn hW hA hG L) (fun r hr => ?_)
    obtain ⟨ρ1, ρ, h1, hR, hF, yr, ⟨y1, ⟨y2, y3, y4, y5, y6⟩, y7, y8, y9⟩, y11⟩ := hr
    obtain ⟨c44, c31, c21⟩ := PR_ct hR
    have d44 := (y1 44 (by decide)).trans c44
    have d31 := (y1 31 (by decide)).trans c31
    have d21 : r.2.2.2 21 0 = nI t.2.1 := by rw [y8 21 (by decide)]; exact c21
    refine ⟨fun _ TX u p nX g2 t2 hX h115 h53 hG2 => ?_, fun z hz => ?_, fun y hy => ?_⟩
    · have e : nX = n := nI_inj (h115.symm.trans y2) (by omega) (by have := tn.2; omega)
      subst e
      obtain ⟨s1, s2, s3⟩ := SmP_ct (SmP_of (fun i hi => (y9 i hi).symm.trans (h53 i hi)) hG2 hG)
      exact ⟨d44.trans s1, d31.trans s2, d21.trans s3⟩
    · obtain rfl := Sum.inr.inj (Option.some.inj (hG.symm.trans hz))
      exact ⟨d44, d31, d21⟩
    · have e := hG.symm.trans hy
      cases e
  | inl yf =>
    have no : ∀ z, ¬ gPrg (σ.2.2 3) n (g0 (σ.2.2 3) n (σ.2.2 10) (σ.2.2 11)) = some (Sum.inr z) := fun z hz => by
      have e := hG.symm.trans hz
      cases e
    rcases hP with ⟨h111, h112, hXn⟩ | ⟨h111, TX, u, p, nX, g, t, KB, S, ⟨hX, h115, h53⟩, hp, ok, pg, vw, C, K, z0, x66, sd, ri, ps⟩
    · refine Tm_mono (s_prgN tn hW hA h111 hG L) (fun r hr => ?_)
      obtain ⟨⟨yr, yc⟩, ρ1, ρ, h1, hF, y1, y4, y7, y8⟩ := hr
      obtain ⟨p1, p2, p3⟩ := Pg1_fr h1
      have e111 : r.2.1 111 = 0 := by rw [y1 111 (by decide), hF.1 111 (by decide), p1 111 (by decide)]; exact h111
      exact ⟨fun z => absurd e111 z, fun z hz => absurd hz (no z), fun _ _ z => absurd h111 z⟩
    · refine Tm_mono (s_prgA tn hW hA h111 hX h115 h53 hp.1 hG L) (fun r hr => ?_)
      obtain ⟨⟨yr, yc⟩, ρ1, ρ2, ρ3, ρ, g', t', h1, hF2, hL, hs, hR, hF, y1, y4, y7, y8⟩ := hr
      obtain ⟨p1, p2, p3⟩ := Pg1_fr h1
      obtain ⟨l1, l2, l3, l4, l5⟩ := hL
      have e115 : r.2.1 115 = σ.1 115 := by rw [y1 115 (by decide), hF.1 115 (by decide), l2 115 (by decide), hF2.1 115 (by decide), p1 115 (by decide)]
      have e53 : r.2.2.2 53 = σ.2.2 53 := by rw [y8 53, hF.2.2.1 53 (by decide), l4 53 (by decide), hF2.2.2.1 53 (by decide), p3 53 (by decide)]
      obtain ⟨c44, c31, c21⟩ := PR_ct hR
      obtain ⟨s1, s2, s3⟩ := SmP_ct hs
      have d44 := ((y1 44 (by decide)).trans c44).trans s1
      have d31 := ((y1 31 (by decide)).trans c31).trans s2
      have d21 : r.2.2.2 21 0 = nI t.2.1 := by rw [y8 21]; exact c21.trans s3
      obtain ⟨b44, b31, b21⟩ := rn h111 TX u p nX g t hX h115 h53 hp.1
      refine ⟨fun _ TX2 u2 p2 nX2 g2 t2 hX2 k115 k53 hG2 => ?_, fun z hz => absurd hz (no z), fun _ _ _ => ⟨d44.trans b44.symm, d31.trans b31.symm, d21.trans b21.symm⟩⟩
      have e : nX2 = nX := nI_inj ((k115.symm.trans e115).trans h115) (by omega) (by omega)
      subst e
      obtain ⟨w1, w2, w3⟩ := SmP_ct (SmP_of (fun i hi => (h53 i hi).symm.trans ((congrFun e53 i).symm.trans (k53 i hi))) hG2 hp.1)
      exact ⟨d44.trans w1, d31.trans w2, d21.trans w3⟩
end RNS
end JnS579
