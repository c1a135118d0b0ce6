/-! Simple statements, as the grammar lays them: ok. -/
/-- ok is asked into a variable -/
def QOk (un n : Nat) (T' : Nat → Nat → Int32) : Prop := T' 4 n = 44 ∧ ∃ a s, T' 5 n = nI a ∧ NmW T' (lcU un T') (cnU un T') a s
section SL5
variable {T : Nat → Int32} {n : Nat} {FN : Nat → Nat → Prop} {GF : Nat → Prop} {E : En} {v vv lo un : Nat} {b : BT}
theorem G12_1 : ∀ (f o q v i e : Nat) (b : BT) (r : RT), ¬ i = 0 → G T n f 12 E o q v i e 0 0 b = some (some r) → r = (q, v, i, e, b, []) ∨ r.2.2.1 = 2 := by
  intro f
  induction f with
  | zero => intro o q v i e b r _ hG; exact absurd hG (by unfold G; intro h; cases h)
  | succ f ih =>
    intro o q v i e b r hi hG
    rw [G_12] at hG
    have two : ∀ {o q v e : Nat} {b : BT}, G T n f 12 E o q v (if i = 0 then 0 else 2) e 0 0 b = some (some r) → r.2.2.1 = 2 := fun {o q v e b} h => by
      rw [if_neg hi] at h
      rcases ih _ _ _ _ _ _ _ (by decide) h with z | z
      · rw [z]
      · exact z
    by_cases c : tkK T n q = 6 ∨ tkK T n q = 8
    · rw [if_pos c] at hG
      obtain ⟨_, hG⟩ := gO_s hG
      obtain ⟨_, hG⟩ := gT_s hG
      obtain ⟨s, _, hG⟩ := gb_s hG
      refine Or.inr ?_
      by_cases c2 : tkK T n q = 6 ∧ tkK T n s.1 = 16
      · rw [if_pos c2] at hG
        obtain ⟨_, hG⟩ := gT_s hG
        obtain ⟨s2, _, hG⟩ := gb_s hG
        obtain ⟨_, _, hG⟩ := gW_s hG
        exact two hG
      · rw [if_neg c2] at hG
        obtain ⟨_, _, hG⟩ := gW_s hG
        exact two hG
    · rw [if_neg c] at hG
      cases hG
      exact Or.inl rfl
/-- a target that is a variable alone -/
theorem gTg_1 {f o q : Nat} {r : RT} (hG : gTg T n f E o q v b = some (some r)) (h1 : r.2.2.1 = 1) : r.2.2.2.1 = b.1 ∧ r.2.2.2.2.1.2.2.1 4 b.1 = 7 := by
  unfold gTg at hG
  by_cases c : tkK T n q = 26
  · rw [if_pos c] at hG
    obtain ⟨_, hG⟩ := gT_s hG
    by_cases c2 : (fd E (tkS T n q)).1 = 1
    · rw [if_pos c2] at hG
      rcases G12_1 _ _ _ _ _ _ _ _ (by decide) hG with z | z
      · rw [z]; exact ⟨rfl, nd_t.1⟩
      · rw [h1] at z; exact absurd z (by decide)
    · rw [if_neg c2] at hG; cases hG
  · rw [if_neg c] at hG; cases hG
theorem LTt_1 {e kk : Nat} {T' : Nat → Nat → Int32} (h : LTt FN GF un vv lo b e kk) (h7 : b.2.2.1 4 e = 7) (hA : Agr T' un vv b lo e) (hGF : ∀ s, GF s → ¬ T' 20 s = 0) : ∃ s, NmW T' (lcU un T') (cnU un T') e s := by
  obtain ⟨l1, l2, l3, l4, l5⟩ := h
  obtain ⟨k, ch, s, c1, c2, c3, c4⟩ := l5 T' hA hGF
  have e4 : T' 4 e = 7 := (hA.1 4 e (by decide) (by decide) l2 l3 (by omega)).trans h7
  cases k with
  | zero => rw [c1]; exact ⟨s, c3⟩
  | succ k =>
    exfalso
    rw [c1] at e4
    rcases (c2.2.2 k (Nat.lt_succ_self _)).2.2.1 with z | z | z <;> (rw [z] at e4; exact absurd e4 (by decide))
/-- ok -/
theorem gOk_t {e kk : Nat} (hL : LTt FN GF un vv lo b e kk) (h7 : b.2.2.1 4 e = 7) : SLd GF un vv lo (bNode b 44 (nI e) 0 0) b.1 (QOk un b.1) := by
  refine SLd_nd hL.1 (by have := hL.2.1; have := hL.2.2.1; omega) (fun T' hA hlt hGF n4 n5 n6 n7 => ⟨n4, e, ?_⟩)
  obtain ⟨s, hs⟩ := LTt_1 hL h7 (hA e) hGF
  exact ⟨s, n5, hs⟩
end SL5
