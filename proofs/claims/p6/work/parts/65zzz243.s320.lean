/-! Statements that begin with a name, whole, and words. -/
section SL7
variable {T : Nat → Int32} {n : Nat} {FN : Nat → Nat → Prop} {GF : Nat → Prop} {E : En} {MD : Nat → Nat → Nat} {v lo e : Nat} {b : BT}
theorem gBh_t {f o i q kk q0 : Nat} {r : RT} (hT : ∀ i, i < n → ∃ d, d ≤ 300 ∧ T i = nI d) (hq : q ≤ n) (hv : v ≤ 60) (ho : o ≤ 20) (hbn : b.1 + n < 70000 + q) (hbp : b.2.1 + n ≤ 70000 + q) (hb1 : 1 ≤ b.1) (hE : EnOK FN E) (hN : NmC E.2.2.2.1 v b GF E) (hL : LTt FN GF E.2.2.2.1 v lo b e kk) (h7 : i = 1 → b.2.2.1 4 e = 7) (hkk : 2 * kk + q0 ≤ q) (hG : gBh T n f MD E o i e q v b = some (some r)) : ∃ ks, Frm E.2.2.2.1 v b 0 r.2.2.2.2.1 ∧ SLd GF E.2.2.2.1 r.2.1 lo r.2.2.2.2.1 r.2.2.2.1 (QBg FN E MD r.2.2.2.1 ks) ∧ 2 * ks + q0 < r.1 := by
  unfold gBh at hG
  have l1 := hL.1
  have u1 := tkN_b T n q hq
  by_cases k2 : tkK T n q = 2 ∨ tkK T n q = 3 ∨ tkK T n q = 4
  · rw [if_pos k2] at hG
    obtain ⟨t1, hG⟩ := gT_s hG
    obtain ⟨w2, t2, hG⟩ := gW_s hG
    have u2 := tkN_b T n _ u1.2.1
    obtain ⟨r1, r2, r3⟩ := gE13_t (GF := GF) (Or.inr rfl) hT u2.2.1 hv ho (by omega) (by omega) hb1 hE hN hL hG
    exact ⟨kk, r1, SLd_mo r2 ⟨l1, Nat.le_refl _⟩ (fun T' _ _ h => Or.inl h), by omega⟩
  rw [if_neg k2] at hG
  by_cases k57 : tkK T n q = 57 ∨ tkK T n q = 58 ∨ tkK T n q = 59
  · rw [if_pos k57] at hG
    obtain ⟨t1, hG⟩ := gT_s hG
    obtain ⟨kb, r1, r2, r3⟩ := gFr_t (GF := GF) hT u1.2.1 hv ho (by omega) (by omega) hb1 hE hN hL hG
    exact ⟨kk + kb, r1, SLd_mo r2 ⟨l1, Nat.le_refl _⟩ (fun T' _ _ h => Or.inr (Or.inl h)), by omega⟩
  rw [if_neg k57] at hG
  obtain ⟨w2, t2, hG⟩ := gW_s hG
  exact gAs_t (GF := GF) hT u1.2.1 hv ho (by omega) (by omega) hb1 hE hN hL h7 (by omega) hG
/-- a statement that begins with a name -/
theorem gBg_t {f o q : Nat} {r : RT} (hT : ∀ i, i < n → ∃ d, d ≤ 300 ∧ T i = nI d) (hq : q ≤ n) (hk : tkK T n q = 26) (hv : v ≤ 60) (ho : o ≤ 20) (hbn : b.1 + n < 70000 + q) (hbp : b.2.1 + n ≤ 70000 + q) (hb1 : 1 ≤ b.1) (hE : EnOK FN E) (hN : NmC E.2.2.2.1 v b GF E) (hG : gBg T n f MD E o q v b = some (some r)) : ∃ ks, Frm E.2.2.2.1 v b 0 r.2.2.2.2.1 ∧ SLd GF E.2.2.2.1 r.2.1 b.1 r.2.2.2.2.1 r.2.2.2.1 (QBg FN E MD r.2.2.2.1 ks) ∧ 2 * ks + q < r.1 := by
  unfold gBg at hG
  by_cases k3 : (fd E (tkS T n q)).1 = 3
  · rw [if_pos k3] at hG
    unfold gCa at hG
    obtain ⟨KB, r1, r2, r3⟩ := gCl_t (GF := GF) hT hq (by omega) hv ho hbn hbp hb1 hE hN hG
    exact ⟨KB, r1, SLd_mo r2 ⟨hb1, Nat.le_refl _⟩ (fun T' hA hGF h => Or.inr (Or.inr (Or.inr ⟨tkS T n q, -1, k3, h, Or.inl rfl⟩))), r3⟩
  rw [if_neg k3] at hG
  obtain ⟨s, g1, hG⟩ := gb_s hG
  obtain ⟨⟨a1, a2, a3, a4, a5, a6, a7, a8⟩, _⟩ := gTg_mo (M := 1) hq hv hb1 (Nat.le_refl 1) g1
  obtain ⟨kk, hF, hH, hkk⟩ := gTg_t hT hq hv ho hbn hbp hb1 hE hN g1
  obtain ⟨ks, r1, r2, r3⟩ := gBh_t (GF := GF) (q0 := q) hT a2 (by omega) ho (by omega) (by omega) (by omega) hE (NmC_fr hN hF a3) hH (fun z => by
    obtain ⟨z1, z2⟩ := gTg_1 g1 z
    rw [z1]; exact z2) (by omega) hG
  exact ⟨ks, Frm_tr hF r1 a3 (Or.inl rfl), r2, r3⟩
/-- a statement that begins with a word -/
theorem gSm_t {f o q lp : Nat} {r : RT} (hw : 49 ≤ tkK T n q ∧ tkK T n q ≤ 56) (hT : ∀ i, i < n → ∃ d, d ≤ 300 ∧ T i = nI d) (hq : q ≤ n) (hv : v ≤ 60) (ho : o ≤ 20) (hbn : b.1 + n < 70000 + q) (hbp : b.2.1 + n ≤ 70000 + q) (hb1 : 1 ≤ b.1) (hE : EnOK FN E) (hN : NmC E.2.2.2.1 v b GF E) (hG : gSm T n f lp E o q v b = some (some r)) : ∃ ks, Frm E.2.2.2.1 v b 0 r.2.2.2.2.1 ∧ SLd GF E.2.2.2.1 r.2.1 b.1 r.2.2.2.2.1 r.2.2.2.1 (QSm FN E.2.2.2.1 lp r.2.2.2.1 ks) ∧ 2 * ks + q < r.1 := by
  unfold gSm at hG
  by_cases c : ((tkK T n q = 49 ∨ tkK T n q = 50) ∧ lp = 0) ∨ (tkK T n q = 51 ∧ (E.2.2.2.1 = 0 ∨ 41 < E.2.2.2.1))
  · rw [if_pos c] at hG; cases hG
  rw [if_neg c] at hG
  obtain ⟨t1, hG⟩ := gT_s hG
  have u1 := tkN_b T n q hq
  have u1' := u1.2.2.2 (by omega)
  obtain ⟨ks, r1, r2, r3⟩ := gSm0_t (GF := GF) (lp := lp) (by omega) (fun z y => c (Or.inl ⟨by omega, y⟩)) (fun z y => c (Or.inr ⟨by omega, Or.inl y⟩)) hT u1.2.1 hv ho (by omega) (by omega) hb1 hE hN hG
  exact ⟨ks, r1, r2, by omega⟩
end SL7
