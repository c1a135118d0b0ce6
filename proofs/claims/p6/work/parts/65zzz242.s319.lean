/-! Statements that begin with a name, as the grammar lays them. -/
/-- a statement that begins with a name: ks keys -/
def QBg (FN : Nat → Nat → Prop) (E : En) (MD : Nat → Nat → Nat) (n ks : Nat) (T' : Nat → Nat → Int32) : Prop := QAs FN E.2.2.2.1 n ks T' ∨ QFr FN E.2.2.2.1 n ks T' ∨ QOk E.2.2.2.1 n T' ∨ ∃ bs tg, (fd E bs).1 = 3 ∧ QCa FN E.2.2.2.1 n (fd E bs).2.1 (E.2.2.2.2.2.2 (fd E bs).2.1) ks (MD (fd E bs).2.1) tg T' ∧ (tg = -1 ∨ ∃ k ch s, tg = nI (ch k) ∧ Tgt T' FN (lcU E.2.2.2.1 T') k ch ∧ NmW T' (lcU E.2.2.2.1 T') (cnU E.2.2.2.1 T') (ch 0) s ∧ kys T' ch k ≤ ks)
section SL6
variable {T : Nat → Int32} {n : Nat} {FN : Nat → Nat → Prop} {GF : Nat → Prop} {E : En} {MD : Nat → Nat → Nat} {un v vv vw lo lo' e : Nat} {b b' : BT} {T' : Nat → Nat → Int32} {Q Q' : (Nat → Nat → Int32) → Prop}
theorem AgS_ag {top : Nat} (hA : AgS T' un vw b' lo e) (hF : Frm un vv b 0 b') (hv : vv ≤ vw) (h1 : 1 ≤ lo) (hb : b.1 ≤ e) : Agr T' un vv b lo top := by
  obtain ⟨a1, a2, a3, a4, a5⟩ := hF
  have l1 := hA.2.2.2.1
  have l2 := hA.2.2.2.2
  refine ⟨fun a i h4 h9 hi hb' hx => ?_, fun i hi => ?_, fun s hs => ?_, by omega, by omega⟩
  · rw [hA.1 a i h4 h9 hi (by omega) (by omega), a3 a i hb' (by omega)]
  · rw [hA.2.1 i (by omega), a4 i hi]
  · rw [hA.2.2.1 s (by omega), a5 s hs]
theorem AgS_lo (hA : AgS T' un vw b' lo e) (hl : lo ≤ lo') : AgS T' un vw b' lo' e := ⟨fun a i h4 h9 hi hb hx => hA.1 a i h4 h9 (by omega) hb hx, hA.2⟩
theorem SLd_mo (h : SLd GF un vv lo b e Q) (hl : 1 ≤ lo' ∧ lo' ≤ lo) (hQ : ∀ T', AgS T' un vv b lo' e → (∀ s, GF s → ¬ T' 20 s = 0) → Q T' → Q' T') : SLd GF un vv lo' b e Q' := by
  obtain ⟨h1, h2, h3, h4, h5⟩ := h
  exact ⟨hl.1, by omega, h3, h4, fun T' hA hGF => hQ T' hA hGF (h5 T' (AgS_lo hA hl.2) hGF)⟩
/-- behind a target and := -/
theorem gAs_t {f o i q kk q0 : Nat} {r : RT} (hT : ∀ i, i < n → ∃ d, d ≤ 300 ∧ T i = nI d) (hq : q ≤ n) (hv : v ≤ 60) (ho : o ≤ 20) (hbn : b.1 + n < 70000 + q) (hbp : b.2.1 + n ≤ 70000 + q) (hb1 : 1 ≤ b.1) (hE : EnOK FN E) (hN : NmC E.2.2.2.1 v b GF E) (hL : LTt FN GF E.2.2.2.1 v lo b e kk) (h7 : i = 1 → b.2.2.1 4 e = 7) (hkk : 2 * kk + q0 ≤ q) (hG : gAs T n f MD E o i e q v b = some (some r)) : ∃ ks, Frm E.2.2.2.1 v b 0 r.2.2.2.2.1 ∧ SLd GF E.2.2.2.1 r.2.1 lo r.2.2.2.2.1 r.2.2.2.1 (QBg FN E MD r.2.2.2.1 ks) ∧ 2 * ks + q0 < r.1 := by
  unfold gAs at hG
  have l1 := hL.1
  have l2 := hL.2.1
  have l3 := hL.2.2.1
  by_cases k63 : tkK T n q = 63
  · rw [if_pos k63] at hG
    by_cases i1 : i = 1
    · rw [if_pos i1] at hG
      obtain ⟨t1, hG⟩ := gT_s hG
      have u1 := tkN_b T n q hq
      obtain ⟨w2, t2, hG⟩ := gW_s hG
      have u2 := tkN_b T n _ u1.2.1
      have u2' := u2.2.2.2 (by rw [w2]; decide)
      cases hG
      exact ⟨kk, Frm_node, SLd_mo (gOk_t hL (h7 i1)) ⟨l1, Nat.le_refl _⟩ (fun T' _ _ h => Or.inr (Or.inr (Or.inl h))), by show 2 * kk + q0 < tkN T n (tkN T n q); omega⟩
    · rw [if_neg i1] at hG; cases hG
  rw [if_neg k63] at hG
  by_cases k26 : tkK T n q = 26 ∧ (fd E (tkS T n q)).1 = 3
  · rw [if_pos k26] at hG
    unfold gCa at hG
    obtain ⟨KB, r1, r2, r3⟩ := gCl_t (GF := GF) hT hq (by omega) hv ho hbn hbp hb1 hE hN hG
    have e1 := r2.2.1
    have mv : v ≤ r.2.1 := (moCl (M := 1) hq hv (Nat.le_refl 1) hb1 hG).1.2.2.1
    refine ⟨kk + KB, r1, SLd_mo r2 ⟨l1, by omega⟩ (fun T' hA hGF h => Or.inr (Or.inr (Or.inr ⟨tkS T n q, nI e, k26.2, ⟨h.1, h.2.1, h.2.2.1, fun z => h.2.2.2 ⟨by omega, by omega⟩⟩, Or.inr ?_⟩))), by omega⟩
    obtain ⟨k, ch, s, c1, c2, c3, c4⟩ := hL.2.2.2.2 T' (AgS_ag hA r1 mv l1 e1) hGF
    exact ⟨k, ch, s, by rw [c1], c2, c3, by omega⟩
  · rw [if_neg k26] at hG
    obtain ⟨r1, r2, r3⟩ := gE13_t (GF := GF) (Or.inl rfl) hT hq hv ho hbn hbp hb1 hE hN hL hG
    exact ⟨kk, r1, SLd_mo r2 ⟨l1, Nat.le_refl _⟩ (fun T' _ _ h => Or.inl h), by omega⟩
end SL6
