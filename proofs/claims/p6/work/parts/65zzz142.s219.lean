/-! Evaluation on both sides (reference): iterators go on. -/
section RMS
variable {T : Nat → Nat → Int32} {FN : Nat → Nat → Prop} {O r K d t u w XC : Nat} {lc : Nat → Prop} {σ σ1 σ2 τ τ1 τ2 ρ : MS} {g : Nat → Prop} {l : List Nat} {B h X a i : Nat}
theorem Rm_h {c : Nat} (hS : HS g l B h σ) (hr : Rm c σ) : h + c ≤ B + 870000 := by
  obtain ⟨B', h', r1, r2, r3, r4⟩ := hr
  have hb := HS_b hS
  have hB := hS.2.1
  have e1 : B = B' := (n_eq (by omega) (by omega)).mp (hS.1.symm.trans r1)
  have e2 : h = h' := (n_eq (by omega) (by omega)).mp (hS.2.2.1.symm.trans r3)
  omega
theorem Rm_c {c : Nat} (h54 : τ.1 54 = σ.1 54) (h55 : τ.1 55 = σ.1 55) (hr : Rm c σ) : Rm c τ := by
  unfold Rm; rw [h54, h55]; exact hr
theorem Rm_mo {c c' : Nat} (h : c' ≤ c) (hr : Rm c σ) : Rm c' σ := by
  obtain ⟨B', h', r1, r2, r3, r4⟩ := hr
  exact ⟨B', h', r1, r2, r3, by omega⟩
theorem EI_rm (hE : EI t w XC σ1 σ2) : Rm (XC - 400000 + 10) σ1 ∧ Rm (XC - 400000 + 10) σ2 := by
  obtain ⟨g1, l1, B1, h1, X1, g2, l2, B2, h2, X2, m1, m2, hR, i1, i2, t1, e1, e2, w1, hw, _⟩ := hE
  exact ⟨Rm_HS m1.1 (by omega), Rm_HS m2.1 (by omega)⟩
/-- more room, another bound -/
theorem EIx_up {g1 g2 : Nat → Prop} {l1 l2 : List Nat} {B1 h1 X1 B2 h2 X2 XC' : Nat} (hX : EIx t w XC σ1 σ2 g1 l1 B1 h1 X1 g2 l2 B2 h2 X2) (hc : XC ≤ XC') (r1 : h1 + (XC' - 400000) + 10 ≤ B1 + 870000) (r2 : h2 + (XC' - 400000) + 10 ≤ B2 + 870000) : EI t w XC' σ1 σ2 := by
  obtain ⟨m1, m2, hR, i1, i2, t1, e1, e2, w1, hw, x1, x2, y⟩ := hX
  exact ⟨g1, l1, B1, h1, X1, g2, l2, B2, h2, X2, m1, m2, hR, i1, i2, t1, e1, e2, w1, ⟨hw.1, r1, r2⟩, by omega, by omega, y⟩
theorem EI_50 {x : Int32} (hE : EI t w XC σ1 σ2) : EI t w XC (mAr σ1 50 i x) (mAr σ2 50 i x) := by
  obtain ⟨g1, l1, B1, h1, X1, g2, l2, B2, h2, X2, m1, m2, hR, i1, i2, t1, e1, e2, w1, hw, x1, x2, ⟨ty1, ty2⟩, y⟩ := hE
  have o : ∀ (σ : MS) a, a ≠ 50 → (mAr σ 50 i x).2.2 a = σ.2.2 a := fun σ a ha => mAr_o ha
  exact ⟨g1, l1, B1, h1, X1, g2, l2, B2, h2, X2, MI_nr (Or.inr rfl) m1, MI_nr (Or.inr rfl) m2, RA_nr (Or.inr rfl) hR, IT_c (σ := σ1) rfl (o _ 34 (by decide)) (o _ 35 (by decide)) (o _ 28 (by decide)) i1, IT_c (σ := σ2) rfl (o _ 34 (by decide)) (o _ 35 (by decide)) (o _ 28 (by decide)) i2, t1, e1, e2, w1, hw, x1, x2, ⟨by rw [o _ 2 (by decide)]; exact ty1, by rw [o _ 2 (by decide), o _ 2 (by decide)]; exact ty2⟩, y⟩
/-- fewer iterators -/
theorem RtP_72 {e e' b j : Nat} (h72 : σ.1 72 = nI e) (h4 : e ≤ 4000) (he : e' ≤ e) (hR : RtP t (mSc σ 72 (nI e')) b j) : RtP t σ b j := by
  have e1 : ((mSc σ 72 (nI e')).1 72).toNatClampNeg = e' := n_cl (p := e') (by omega)
  have e2 : (σ.1 72).toNatClampNeg = e := by rw [h72]; exact n_cl (by omega)
  have e3 : (mSc σ 72 (nI e')).1 63 = σ.1 63 := rfl
  have e4 : (mSc σ 72 (nI e')).2.2 = σ.2.2 := rfl
  unfold RtP at hR ⊢
  rw [e1, e3, e4] at hR
  rw [e2]
  rcases hR with z | z | z | z | z | z | z | z | z
  · exact Or.inl z
  · exact Or.inr (Or.inl z)
  · exact Or.inr (Or.inr (Or.inl z))
  · exact Or.inr (Or.inr (Or.inr (Or.inl z)))
  · exact Or.inr (Or.inr (Or.inr (Or.inr (Or.inl ⟨z.1, by omega⟩))))
  · exact Or.inr (Or.inr (Or.inr (Or.inr (Or.inr (Or.inl z)))))
  · exact Or.inr (Or.inr (Or.inr (Or.inr (Or.inr (Or.inr (Or.inl z))))))
  · exact Or.inr (Or.inr (Or.inr (Or.inr (Or.inr (Or.inr (Or.inr (Or.inl z)))))))
  · exact Or.inr (Or.inr (Or.inr (Or.inr (Or.inr (Or.inr (Or.inr (Or.inr z)))))))
theorem MI_72 {e e' : Nat} (hM : MI t X g l B h σ) (h72 : σ.1 72 = nI e) (h4 : e ≤ 4000) (he : e' ≤ e) : MI t X g l B h (mSc σ 72 (nI e')) := by
  obtain ⟨P, e0, q1, q2, q3, q4, q5, q6⟩ := hM.2.1
  exact MI_re hM rfl rfl rfl ⟨P, e', q1, q2, rfl, by omega, q5, q6⟩ (fun b j z => MI_rt hM (RtP_72 h72 h4 he z))
theorem IT_72 {e e' : Nat} (hI : IT g σ) (h72 : σ.1 72 = nI e) (h4 : e ≤ 4000) (he : e' ≤ e) : IT g (mSc σ 72 (nI e')) := by
  obtain ⟨e0, q1, q2, q3⟩ := hI
  have ee : e0 = e := (n_eq (by omega) (by omega)).mp (q1.symm.trans h72)
  exact ⟨e', rfl, by omega, fun i hi => q3 i (by omega)⟩
theorem EI_72 {e e' : Nat} (hE : EI t w XC σ1 σ2) (h72 : σ1.1 72 = nI e) (h4 : e ≤ 4000) (he : e' ≤ e) : EI t w XC (mSc σ1 72 (nI e')) (mSc σ2 72 (nI e')) := by
  obtain ⟨g1, l1, B1, h1, X1, g2, l2, B2, h2, X2, m1, m2, hR, i1, i2, t1, e1, e2, w1, hw, x1, x2, y⟩ := hE
  have g72 : σ2.1 72 = nI e := (hR.2.2.1 72 (by unfold AlS; omega)).symm.trans h72
  refine ⟨g1, l1, B1, h1, X1, g2, l2, B2, h2, X2, MI_72 m1 h72 h4 he, MI_72 m2 g72 h4 he, ⟨fun b j z hv => hR.1 b j (RtP_72 h72 h4 he z) hv, fun b j hb hz hn => hR.2.1 b j hb hz (fun z => hn ?_), fun j hj => ?_, hR.2.2.2⟩, IT_72 i1 h72 h4 he, IT_72 i2 g72 h4 he, t1, e1, e2, w1, hw, x1, x2, y⟩
  · have s72 : (mSc σ1 72 (nI e')).1 72 = nI e' := rfl
    have s63 : (mSc σ1 72 (nI e')).1 63 = σ1.1 63 := rfl
    have s22 : (mSc σ1 72 (nI e')).1 22 = σ1.1 22 := rfl
    have s24 : (mSc σ1 72 (nI e')).1 24 = σ1.1 24 := rfl
    have s30 : (mSc σ1 72 (nI e')).1 30 = σ1.1 30 := rfl
    have s44 : (mSc σ1 72 (nI e')).1 44 = σ1.1 44 := rfl
    unfold InA at z ⊢
    rw [h72, n_cl (p := e) (by omega)] at z
    rw [s72, s63, s22, s24, s30, s44, n_cl (p := e') (by omega)]
    rcases z with z | z | z | z | z
    · exact Or.inl z
    · exact Or.inr (Or.inl z)
    · exact Or.inr (Or.inr (Or.inl z))
    · exact Or.inr (Or.inr (Or.inr (Or.inl ⟨z.1, by omega⟩)))
    · exact Or.inr (Or.inr (Or.inr (Or.inr z)))
  · show upd σ1.1 72 (nI e') j = upd σ2.1 72 (nI e') j
    by_cases c : j = 72
    · rw [c, upd_same, upd_same]
    · rw [upd_other c, upd_other c]; exact hR.2.2.1 j hj
theorem EZ_72 {a b e e' : Nat} (h : EZ a b σ) (h72 : σ.1 72 = nI e) (h4 : e ≤ 4000) (he : e' ≤ e) : EZ a b (mSc σ 72 (nI e')) := by
  obtain ⟨g, l, B, h', t, m, c1, c2, c3, c4, c5, c6, c7⟩ := h
  exact ⟨g, l, B, h', t, MI_72 m h72 h4 he, c1, c2, c3, c4, ErB_c rfl c5, c6, c7⟩
theorem EI_x50 (hE : EI t w XC σ1 σ2) : σ2.1 72 = σ1.1 72 := by
  obtain ⟨_, _, _, _, _, _, _, _, _, _, _, _, hR, _⟩ := hE
  exact (hR.2.2.1 72 (by unfold AlS; omega)).symm
end RMS
/-- j iterators of it are open above e0 -/
def GIt (e0 j : Nat) (it : Nat → Nat) (τ τ' : MS) : Prop := τ.1 72 = nI (e0 + j) ∧ ∀ i, i < j → τ.2.2 50 (e0 + i) = nI (it i) ∧ τ'.2.2 50 (e0 + i) = nI (it i) ∧ τ'.1 72 = nI (e0 + j)
/-- behind goOn -/
def GnQ (N : Nat → Nat → Prop) (b e0 m t w XC : Nat) (it : Nat → Nat) (σ1 σ2 : MS) (r1 r2 : Int32 × MS) : Prop := FI N e0 σ1 r1.2 ∧ FI N e0 σ2 r2.2 ∧ r1.1 = r2.1 ∧ ((∃ w', w ≤ w' ∧ EI t w' XC r1.2 r2.2 ∧ ((r1.1 = 1 ∧ w + 1 ≤ w' ∧ GIt e0 m it r1.2 r2.2) ∨ (r1.1 = 0 ∧ r1.2.1 72 = nI e0 ∧ Rm 79900 r1.2 ∧ Rm 79900 r2.2))) ∨ (r1.1 = 0 ∧ EZ t b r1.2 ∧ EZ t b r2.2 ∧ (∃ e1, e0 ≤ e1 ∧ e1 ≤ 4000 ∧ r1.2.1 72 = nI e1) ∧ ∃ e1, e0 ≤ e1 ∧ e1 ≤ 4000 ∧ r2.2.1 72 = nI e1))
section EGN
variable {T : Nat → Nat → Int32} {FN : Nat → Nat → Prop} {O r K d t u w XC : Nat} {lc : Nat → Prop} {σ σ1 σ2 τ τ1 τ2 ρ : MS}
theorem GIt_fe {e0 j : Nat} {it : Nat → Nat} {ρ' : MS} (h : GIt e0 j it τ τ1) (h4 : e0 + j ≤ 4000) (f : FE τ ρ) (f' : FE τ1 ρ') : GIt e0 j it ρ ρ' := by
  refine ⟨(f.1 72 (by unfold AlS; omega) (by decide) (by decide) (by decide)).trans h.1, fun i hi => ?_⟩
  obtain ⟨h1, h2, h3⟩ := h.2 i hi
  rw [f.2.1 50 (e0 + i) (by unfold AlR; omega) (by unfold Zn; omega) (by rw [h.1, n_cl (p := e0 + j) (by omega)]; omega), f'.2.1 50 (e0 + i) (by unfold AlR; omega) (by unfold Zn; omega) (by rw [h3, n_cl (p := e0 + j) (by omega)]; omega)]
  exact ⟨h1, h2, (f'.1 72 (by unfold AlS; omega) (by decide) (by decide) (by decide)).trans h3⟩
theorem NmP_fi {T : Nat → Nat → Int32} {N : Nat → Nat → Prop} {e0 a i : Nat} {x : Int32} (f : FI N e0 τ ρ) : NmP T ρ x a i ↔ NmP T τ x a i := NmP_c (f.1 69 (by unfold AlS; omega) (by decide) (by decide) (by decide) (by decide)) (f.1 67 (by unfold AlS; omega) (by decide) (by decide) (by decide) (by decide)) ((FI_b f).2.2.1 1 (by unfold Zn; omega))
theorem GIt_mo {e0 j j' : Nat} {it : Nat → Nat} (h : GIt e0 j it τ τ1) (hj : j' ≤ j) : GIt e0 j' it (mSc τ 72 (nI (e0 + j'))) (mSc τ1 72 (nI (e0 + j'))) := ⟨rfl, fun i hi => ⟨(h.2 i (by omega)).1, (h.2 i (by omega)).2.1, rfl⟩⟩
end EGN
