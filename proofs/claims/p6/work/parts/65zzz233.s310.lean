/-! Targets of statements: the names that statements see are slots that count. -/
/-- names that statements of unit un see: slots that count; GF: slots of the program that do -/
def NmC (un v : Nat) (b : BT) (GF : Nat → Prop) (E : En) : Prop := (∀ x ∈ E.2.1, x.2.2 < v ∧ x.2.2 < 60 ∧ b.2.2.2.2 (60 * un + x.2.2) = 1) ∧ ∀ x ∈ E.1, x.2.2.1 = 1 → GF x.2.2.2 ∧ x.2.2.2 < 60
/-- a target laid last, in a statement: kk keys -/
def LTt (FN : Nat → Nat → Prop) (GF : Nat → Prop) (un vv lo : Nat) (b : BT) (e kk : Nat) : Prop := 1 ≤ lo ∧ lo ≤ e ∧ e < b.1 ∧ b.2.2.1 9 e = -1 ∧ ∀ T', Agr T' un vv b lo e → (∀ s, GF s → ¬ T' 20 s = 0) → ∃ k ch s, e = ch k ∧ Tgt T' FN (lcU un T') k ch ∧ NmW T' (lcU un T') (cnU un T') (ch 0) s ∧ kys T' ch k = kk
section NMC
variable {FN : Nat → Nat → Prop} {GF : Nat → Prop} {un v vw : Nat} {b b' : BT} {E : En} {bs : List Int32}
theorem fd_c (hN : NmC E.2.2.2.1 v b GF E) (h1 : (fd E bs).1 = 1) : (fd E bs).2.1 < 60 ∧ (((fd E bs).2.2 = 0 ∧ GF (fd E bs).2.1) ∨ ((fd E bs).2.1 < v ∧ b.2.2.2.2 (60 * E.2.2.2.1 + (fd E bs).2.1) = 1 ∧ (fd E bs).2.2 = if E.2.2.2.1 = 0 then 0 else 1)) := by
  unfold fd at h1 ⊢
  cases hS : E.2.1.find? (fun x => decide (x.1 = bs)) with
  | some x =>
    obtain ⟨a1, a2, a3⟩ := hN.1 x (List.mem_of_find?_eq_some hS)
    exact ⟨a2, Or.inr ⟨a1, a3, rfl⟩⟩
  | none =>
    rw [hS] at h1
    cases hG : E.1.find? (fun x => decide (x.1 = bs)) with
    | some x =>
      rw [hG] at h1
      obtain ⟨a1, a2⟩ := hN.2 x (List.mem_of_find?_eq_some hG) h1
      exact ⟨a2, Or.inl ⟨rfl, a1⟩⟩
    | none => rw [hG] at h1; exact absurd (show (0 : Nat) = 1 from h1) (by decide)
/-- what stays true of names -/
theorem NmC_fr {e : Nat} (hN : NmC un v b GF E) (hF : Frm un v b e b') (hv : v ≤ vw) : NmC un vw b' GF E := by
  refine ⟨fun x hx => ?_, hN.2⟩
  obtain ⟨a1, a2, a3⟩ := hN.1 x hx
  exact ⟨by omega, a2, (hF.2.2.2.2 _ a1).trans a3⟩
/-- a target -/
theorem gTg_t {T : Nat → Int32} {n f o q : Nat} {r : RT} (hT : ∀ i, i < n → ∃ d, d ≤ 300 ∧ T i = nI d) (hq : q ≤ n) (hv : v ≤ 60) (ho : o ≤ 20) (hbn : b.1 + n < 70000 + q) (hbp : b.2.1 + n ≤ 70000 + q) (hb1 : 1 ≤ b.1) (hE : EnOK FN E) (hN : NmC E.2.2.2.1 v b GF E) (hG : gTg T n f E o q v b = some (some r)) : ∃ kk, Frm E.2.2.2.1 v b 0 r.2.2.2.2.1 ∧ LTt FN GF E.2.2.2.1 r.2.1 b.1 r.2.2.2.2.1 r.2.2.2.1 kk ∧ 2 * kk + q + 1 ≤ r.1 := by
  unfold gTg at hG
  by_cases c : tkK T n q = 26
  · rw [if_pos c] at hG
    obtain ⟨t2, hG⟩ := gT_s hG
    have u := tkN_b T n q hq
    have u4 := u.2.2.2 (by rw [c]; decide)
    by_cases c2 : (fd E (tkS T n q)).1 = 1
    · rw [if_pos c2] at hG
      obtain ⟨f1, f2⟩ := fd_c hN c2
      have hx : (fd E (tkS T n q)).2.2 = 0 ∨ ¬ E.2.2.2.1 = 0 := (fd_1 hE c2).2
      have h0 : LTg FN E.2.2.2.1 v b.1 (bNode b 7 (fd E (tkS T n q)).2.2 (nI (fd E (tkS T n q)).2.1) 0) b.1 b.1 (fd E (tkS T n q)).2.1 0 (fd E (tkS T n q)).2.2 := LTg_0 hb1 (Nat.le_refl _) f1 hx
      have gm := (g_mono T n f 12 E o _ v 1 b.1 0 0 _ r u.2.1 hv hG 1 (by rw [bNode_1]; omega) (Nat.le_refl 1) ((⟨by omega, by rw [bNode_1]; omega⟩ : 1 ≤ _ ∧ _ < _))).1
      obtain ⟨g1, g2, g3, g4, _⟩ := (gm : Mo n _ _ _ r)
      obtain ⟨kk, k1, k2, k3⟩ := g_tgt hT f E o (tkN T n q) v 1 b.1 _ r b.1 b.1 _ 0 _ u.2.1 hv ho (by rw [bNode_1]; omega) (by rw [bNode_p]; omega) (by rw [bNode_1]; omega) hE hG h0
      have hF : Frm E.2.2.2.1 v b 0 r.2.2.2.2.1 := Frm_tr (Frm_node (vv := v)) k1 (Nat.le_refl _) (Or.inr (Or.inl (Nat.le_refl _)))
      refine ⟨kk, hF, ⟨k2.1, k2.2.1, k2.2.2.1, k2.2.2.2.1, fun T' hA hGF => ?_⟩, by omega⟩
      obtain ⟨k, ch, c1, c3, c4, c5, c6, c7⟩ := k2.2.2.2.2 T' hA
      refine ⟨k, ch, (fd E (tkS T n q)).2.1, c1.symm, c4, ?_, c5⟩
      have b0 := c4.1 0 (Nat.zero_le _)
      refine ⟨b0, by rw [c3]; exact c7, f1, ?_, ?_⟩
      · rw [c3, c6]
        exact hx.imp id (fun z => Or.inl ⟨rfl, z⟩)
      · rw [c3, c6]
        rcases f2 with ⟨z1, z2⟩ | ⟨z1, z2, z3⟩
        · rw [if_pos z1]
          exact Or.inl ⟨by omega, by omega, by rw [Nat.add_sub_cancel_left]; exact hGF _ z2⟩
        · have e20 : ¬ T' 20 (60 * E.2.2.2.1 + (fd E (tkS T n q)).2.1) = 0 := by
            rw [hA.2.2.1 _ (by omega), hF.2.2.2.2 _ z1, z2]; decide
          by_cases e0 : E.2.2.2.1 = 0
          · rw [if_pos (z3.trans (if_pos e0))]
            rw [e0, Nat.mul_zero, Nat.zero_add] at e20
            exact Or.inl ⟨by omega, by omega, by rw [Nat.add_sub_cancel_left]; exact e20⟩
          · rw [if_neg (fun z => absurd (z.symm.trans (z3.trans (if_neg e0))) (by decide))]
            exact Or.inr ⟨e0, by omega, by omega, by rw [Nat.add_sub_cancel_left]; exact e20⟩
    · rw [if_neg c2] at hG; cases hG
  · rw [if_neg c] at hG; cases hG
end NMC
