/-! Lists of statements: arguments, exps that are printed. -/
section LAR
variable {T : Nat → Nat → Int32} {FN : Nat → Nat → Prop} {GF : Nat → Prop} {un np KB pr : Nat} {md : Nat → Nat}
/-- arguments, from the last to the first -/
theorem LS_A (hGF : ∀ s, GF s → ¬ T 20 s = 0) (hK : KB ≤ KBn T ∧ KB ≤ 17000) : ∀ (c m i e : Nat), (∀ j, j ≤ c → j < np ∧ md j ≤ 2 ∧ T 19 (8 * pr + j) = nI (md j)) → LSe (PAr FN GF un md np KB T) T c i e → ArL T FN (lcU un T) (cnU un T) pr m (c + 1) (T 9 e) → ArL T FN (lcU un T) (cnU un T) pr (m + c + 1) 0 (nI i) := by
  have one : ∀ (c m e : Nat), (c < np ∧ md c ≤ 2 ∧ T 19 (8 * pr + c) = nI (md c)) → PAr FN GF un md np KB T c e → ArL T FN (lcU un T) (cnU un T) pr m (c + 1) (T 9 e) → ArL T FN (lcU un T) (cnU un T) pr (m + 1) c (nI e) := fun c m e h hP hL => by
    refine ⟨e, rfl, hP.1, fun z => ?_, fun _ => hP.2.1, hL⟩
    have h0 : 0 < md c := by
      refine Nat.pos_of_ne_zero (fun y => z ?_)
      rw [h.2.2, y]; decide
    obtain ⟨k, ch, s, c1, c2, c3, c4⟩ := hP.2.2 h.1 h0 hGF
    exact ⟨k, ch, s, by rw [c1], c2, c3, by omega, by omega⟩
  intro c
  induction c with
  | zero =>
    intro m i e h hS hL
    obtain ⟨rfl, hP⟩ := hS
    exact one 0 m i (h 0 (Nat.le_refl _)) hP hL
  | succ c ih =>
    intro m i e h hS hL
    obtain ⟨e', h1, h9, hP⟩ := hS
    have := ih (m + 1) i e' (fun j hj => h j (by omega)) h1 (by rw [h9]; exact one (c + 1) m e (h (c + 1) (Nat.le_refl _)) hP hL)
    rw [show m + (c + 1) + 1 = m + 1 + c + 1 by omega]
    exact this
/-- an exp of a list -/
def PEx (FN : Nat → Nat → Prop) (un : Nat) (T' : Nat → Nat → Int32) (_ e : Nat) : Prop := (1 ≤ e ∧ e < LNo T' % 70001) ∧ Wx0 T' FN (lcU un T') (nI e)
theorem LS_X : ∀ (c m i e : Nat), LSe (PEx FN un T) T c i e → ExL T FN (lcU un T) m (T 9 e) → ExL T FN (lcU un T) (m + c + 1) (nI i) := by
  intro c
  induction c with
  | zero =>
    intro m i e hS hL
    obtain ⟨rfl, hP⟩ := hS
    exact ⟨i, rfl, hP.1, hP.2, hL⟩
  | succ c ih =>
    intro m i e hS hL
    obtain ⟨e', h1, h9, hP⟩ := hS
    have := ih (m + 1) i e' h1 (by rw [h9]; exact ⟨e, rfl, hP.1, hP.2, hL⟩)
    rw [show m + (c + 1) + 1 = m + 1 + c + 1 by omega]
    exact this
end LAR
section PRL
variable {T : Nat → Int32} {n : Nat} {FN : Nat → Nat → Prop} {GF : Nat → Prop} {E : En}
theorem PEx_of {o v j : Nat} {b : BT} {s : RT} {T' : Nat → Nat → Int32} (ho : o ≤ 20) (hL : LPt FN (eFl E) E.2.2.2.1 s.2.1 (20 - o) 14 (60 - v) b.1 s.2.2.2.2.1 s.2.2.2.1) (hb1 : 1 ≤ b.1) (hA : Agr T' E.2.2.2.1 s.2.1 s.2.2.2.2.1 b.1 s.2.2.2.1) : PEx FN E.2.2.2.1 T' j s.2.2.2.1 := by
  have l1 := hL.2.1
  have l2 := hL.2.2.1
  exact ⟨⟨by omega, Nat.lt_of_lt_of_le l2 hA.2.2.2.1⟩, Wx_of (by omega) (by omega) (by decide) (hL.2.2.2.2 T' hA)⟩
/-- what is printed behind the first -/
theorem gpr_t (hT : ∀ i, i < n → ∃ d, d ≤ 300 ∧ T i = nI d) (hE : EnOK FN E) : ∀ (f o q v e : Nat) (b : BT) (r : RT) (lo i c : Nat), q ≤ n → v ≤ 60 → o ≤ 20 → b.1 + n < 70000 + q → b.2.1 + n ≤ 70000 + q → 1 ≤ b.1 → NmC E.2.2.2.1 v b GF E → GPr T n E f o q v e b = some (some r) → LL (PEx FN E.2.2.2.1) E.2.2.2.1 v lo b i e c → ∃ c', Frm E.2.2.2.1 v b e r.2.2.2.2.1 ∧ LL (PEx FN E.2.2.2.1) E.2.2.2.1 r.2.1 lo r.2.2.2.2.1 i r.2.2.2.1 c' ∧ 2 * c' + q ≤ 2 * c + r.1 := by
  intro f
  induction f with
  | zero => intro o q v e b r lo i c _ _ _ _ _ _ _ hG; exact absurd hG (by unfold GPr; intro h; cases h)
  | succ f ih =>
    intro o q v e b r lo i c hq hv ho hbn hbp hb1 hN hG hL
    unfold GPr at hG
    have n1 := hL.1
    have n2 := hL.2.1
    have n3 := hL.2.2.1
    by_cases k12 : tkK T n q = 12
    · rw [if_pos k12] at hG
      obtain ⟨t1, hG⟩ := gT_s hG
      have u := tkN_b T n q hq
      have u4 := u.2.2.2 (by rw [k12]; decide)
      obtain ⟨s, g1, hG⟩ := gb_s hG
      obtain ⟨⟨a1, a2, a3, a4, a5, a6, a7, a8⟩, hF, hP, hlt, hi⟩ := ex_of (GF := GF) hT u.2.1 hv ho (by omega) (by omega) hb1 hE hN g1
      have p1 := hP.2.1
      have p2 := hP.2.2.1
      have L1 : LL (PEx FN E.2.2.2.1) E.2.2.2.1 s.2.1 lo (bSet s.2.2.2.2.1 9 e (nI s.2.2.2.1)) i s.2.2.2.1 (c + 1) := LL_app hL hF a3 p1 p2 hP.2.2.2.1 (fun T' hA => PEx_of ho hP hb1 (Agr_g hA (Frm_set9 (vv := s.2.1)) (Nat.le_refl _) n1 (by omega) (Or.inl (by omega)) (Or.inl rfl)))
      obtain ⟨c', r1, r2, r3⟩ := ih o s.1 s.2.1 s.2.2.2.1 (bSet s.2.2.2.2.1 9 e (nI s.2.2.2.1)) r lo i (c + 1) a2 (by omega) ho (by rw [bSet_1]; omega) (by rw [bSet_p]; omega) (by rw [bSet_1]; omega) (NmC_fr (NmC_fr hN hF a3) (Frm_set9 (vv := s.2.1)) (Nat.le_refl _)) hG L1
      exact ⟨c', Frm_tr (Frm_tr (Frm_wk hF) (Frm_set9 (vv := s.2.1)) a3 (Or.inl rfl)) r1 a3 (Or.inr (Or.inl (by omega))), r2, by omega⟩
    · rw [if_neg k12] at hG
      cases hG
      exact ⟨c, Frm_rf, hL, Nat.le_refl _⟩
end PRL
