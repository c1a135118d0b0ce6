/-! Two readings of one text over unlike tables: blocks of statements. -/
/-- statements from k0 on are the same, and those of DU (what they lie in), DP (where they begin) -/
def Zp (DU DP : Nat → Prop) (k0 : Nat) (s s' : SB) : Prop := s.1 = s'.1 ∧ k0 ≤ s.1 ∧ (∀ i, DU i ∨ (k0 ≤ i ∧ i < s.1) → s.2.1 i = s'.2.1 i) ∧ ∀ i, DP i ∨ (k0 ≤ i ∧ i < s.1) → s.2.2 i = s'.2.2 i
/-- behind a statement m: what it lies in is not told yet -/
def Z1 (DU DP : Nat → Prop) (k0 m k : Nat) (s s' : SB) : Prop := k = m ∧ s.1 = s'.1 ∧ k0 ≤ m ∧ m < s.1 ∧ (∀ i, DU i ∨ (k0 ≤ i ∧ i < s.1 ∧ i ≠ m) → s.2.1 i = s'.2.1 i) ∧ ∀ i, DP i ∨ (k0 ≤ i ∧ i < s.1) → s.2.2 i = s'.2.2 i
def Rz (R : Nat → BT → BT → Prop) (Q : Nat → SB → SB → Prop) (x x' : SR) : Prop := (x = none ∧ x' = none) ∨ (x = some none ∧ x' = some none) ∨ ∃ q v k e b b' s s', x = some (some (q, v, k, e, b, s)) ∧ x' = some (some (q, v, k, e, b', s')) ∧ R v b b' ∧ Q k s s'
section RZS
variable {T : Nat → Int32} {n un : Nat} {R : Nat → BT → BT → Prop} {Q Q' : Nat → SB → SB → Prop} {x x' y y' : SR} {v : Nat} {b b' : BT} {DU DP : Nat → Prop} {k0 : Nat} {s s' : SB}
theorem Rz_0 : Rz R Q none none := Or.inl ⟨rfl, rfl⟩
theorem Rz_n : Rz R Q (some none) (some none) := Or.inr (Or.inl ⟨rfl, rfl⟩)
theorem Rz_ss {q k e : Nat} (h : R v b b') (hQ : Q k s s') : Rz R Q (some (some (q, v, k, e, b, s))) (some (some (q, v, k, e, b', s'))) := Or.inr (Or.inr ⟨q, v, k, e, b, b', s, s', rfl, rfl, h, hQ⟩)
theorem Rz_hb {k k' : ST → SR} (hC : RC un R) (h : Rz R Q x x') (hk : ∀ (q v i e : Nat) (b b' : BT) (s s' : SB), R v b b' → b.1 = b'.1 → Q i s s' → Rz R Q' (k (q, v, i, e, b, s)) (k' (q, v, i, e, b', s'))) : Rz R Q' (hb x k) (hb x' k') := by
  rcases h with ⟨h1, h2⟩ | ⟨h1, h2⟩ | ⟨q, v, i, e, b, b', s, s', h1, h2, h3, h4⟩
  · rw [h1, h2]; exact Rz_0
  · rw [h1, h2]; exact Rz_n
  · rw [h1, h2]; exact hk q v i e b b' s s' h3 (hC.1 v b b' h3).1 h4
theorem Rz_lb {x x' : RG} {k k' : RT → SR} (hC : RC un R) (h : Rg R x x') (hk : ∀ (q v i e : Nat) (b b' : BT) (nm : List Nm), R v b b' → b.1 = b'.1 → Rz R Q' (k (q, v, i, e, b, nm)) (k' (q, v, i, e, b', nm))) : Rz R Q' (lb x k) (lb x' k') := by
  rcases h with ⟨h1, h2⟩ | ⟨h1, h2⟩ | ⟨q, v, i, e, b, b', nm, h1, h2, h3⟩
  · rw [h1, h2]; exact Rz_0
  · rw [h1, h2]; exact Rz_n
  · rw [h1, h2]; exact hk q v i e b b' nm h3 (hC.1 v b b' h3).1
theorem Rz_ite {c : Prop} [Decidable c] (h : Rz R Q x x') (h' : Rz R Q y y') : Rz R Q (if c then x else y) (if c then x' else y') := by
  by_cases z : c
  · rw [if_pos z, if_pos z]; exact h
  · rw [if_neg z, if_neg z]; exact h'
theorem Rz_hT {q : Nat} {k k' : Nat → SR} (h : ∀ q1, Rz R Q (k q1) (k' q1)) : Rz R Q (hT T n q k) (hT T n q k') := Rz_ite Rz_n (h _)
theorem Rz_hW {t q : Nat} {k k' : Nat → SR} (h : ∀ q1, Rz R Q (k q1) (k' q1)) : Rz R Q (hW T n t q k) (hW T n t q k') := Rz_ite (Rz_hT h) Rz_n
theorem Rz_hE {q : Nat} {k k' : Nat → SR} (h : ∀ q1, Rz R Q (k q1) (k' q1)) : Rz R Q (hE T n q k) (hE T n q k') := Rz_hW (fun q1 => Rz_hW h)
theorem Zp_up {m k : Nat} {pe : Int32} (h : Z1 DU DP k0 m k s s') : Zp DU DP k0 (sUp s k pe) (sUp s' k pe) := by
  obtain ⟨rfl, h1, h2, h3, h4, h5⟩ := h
  refine ⟨h1, by show k0 ≤ s.1; omega, fun i hi => ?_, h5⟩
  show upd s.2.1 k pe i = upd s'.2.1 k pe i
  have hi : DU i ∨ (k0 ≤ i ∧ i < s.1) := hi
  by_cases c : i = k
  · rw [c, upd_same, upd_same]
  · rw [upd_other c, upd_other c]; exact h4 i (hi.imp id (fun z => ⟨z.1, z.2, c⟩))
theorem Zp_mo (h : Zp DU DP k0 s s') : Zp (fun i => DU i ∨ (k0 ≤ i ∧ i < s.1)) (fun i => DP i ∨ (k0 ≤ i ∧ i < s.1)) (s.1 + 1) (sMo s) (sMo s') := by
  obtain ⟨h1, h2, h3, h4⟩ := h
  refine ⟨congrArg (· + 1) h1, Nat.le_refl _, fun i hi => ?_, fun i hi => ?_⟩
  · rcases hi with hi | hi
    · exact h3 i hi
    · have : i < s.1 + 1 := hi.2
      omega
  · rcases hi with hi | hi
    · exact h4 i hi
    · have : i < s.1 + 1 := hi.2
      omega
theorem Z1_pl {m : Nat} {pl : Int32} (hm : k0 ≤ m) (h : Zp (fun i => DU i ∨ (k0 ≤ i ∧ i < m)) (fun i => DP i ∨ (k0 ≤ i ∧ i < m)) (m + 1) s s') : Z1 DU DP k0 m m (sPl s m pl) (sPl s' m pl) := by
  obtain ⟨h1, h2, h3, h4⟩ := h
  refine ⟨rfl, h1, hm, by show m < s.1; omega, fun i hi => ?_, fun i hi => ?_⟩
  · have hi : DU i ∨ (k0 ≤ i ∧ i < s.1 ∧ i ≠ m) := hi
    refine h3 i ?_
    rcases hi with z | z
    · exact Or.inl (Or.inl z)
    · by_cases c : i < m
      · exact Or.inl (Or.inr ⟨z.1, c⟩)
      · exact Or.inr ⟨by omega, z.2.1⟩
  · have hi : DP i ∨ (k0 ≤ i ∧ i < s.1) := hi
    show upd s.2.2 m pl i = upd s'.2.2 m pl i
    by_cases e : i = m
    · rw [e, upd_same, upd_same]
    · rw [upd_other e, upd_other e]
      refine h4 i ?_
      rcases hi with z | z
      · exact Or.inl (Or.inl z)
      · by_cases c : i < m
        · exact Or.inl (Or.inr ⟨z.1, c⟩)
        · exact Or.inr ⟨by omega, z.2⟩
/-- what a statement, a block leaves -/
def QZ (nt : Nat) (DU DP : Nat → Prop) (k0 m : Nat) : Nat → SB → SB → Prop := if nt = 1 then Z1 DU DP k0 m else fun _ => Zp DU DP k0
abbrev GSR (T : Nat → Int32) (n : Nat) (MD : Nat → Nat → Nat) (un : Nat) (R : Nat → BT → BT → Prop) (f : Nat) : Prop := ∀ (nt : Nat) (E : En) (lp o q v : Nat) (pe : Int32) (i l : Nat) (b b' : BT) (s s' : SB) (DU DP : Nat → Prop) (k0 : Nat), nt ≤ 5 → E.2.2.2.1 = un → R v b b' → Zp DU DP k0 s s' → Rz R (QZ nt DU DP k0 s.1) (GS T n MD f nt E lp o q v pe i l b s) (GS T n MD f nt E lp o q v pe i l b' s')
variable {MD : Nat → Nat → Nat} {E : En} {lp o q i l : Nat} {pe : Int32} {f : Nat}
theorem GSR_0 (hC : RC un R) (ih : GSR T n MD un R f) (hun : E.2.2.2.1 = un) (h : R v b b') (hz : Zp DU DP k0 s s') : Rz R (fun _ => Zp DU DP k0) (GS T n MD (f + 1) 0 E lp o q v pe i l b s) (GS T n MD (f + 1) 0 E lp o q v pe i l b' s') := by
  simp only [GS]
  refine Rz_ite (Rz_ss h hz) (Rz_hb (Q := Z1 DU DP k0 s.1) hC (ih 1 _ _ _ _ _ _ _ _ _ _ _ _ _ _ _ (by decide) hun h hz) (fun q1 v1 k1 e1 b1 b1' t t' hR h1 hZ => ?_))
  exact ih 0 _ _ _ _ _ _ _ _ _ _ _ _ DU DP k0 (by decide) hun (R_lnk hC hR) (Zp_up hZ)
theorem GSR_1 (hC : RC un R) (ih : GSR T n MD un R f) (hun : E.2.2.2.1 = un) (h : R v b b') (hz : Zp DU DP k0 s s') : Rz R (Z1 DU DP k0 s.1) (GS T n MD (f + 1) 1 E lp o q v pe i l b s) (GS T n MD (f + 1) 1 E lp o q v pe i l b' s') := by
  have zm := Zp_mo hz
  simp only [GS, ← hz.1]
  refine Rz_ite Rz_n (Rz_hb (Q := fun _ => Zp (fun i => DU i ∨ (k0 ≤ i ∧ i < s.1)) (fun i => DP i ∨ (k0 ≤ i ∧ i < s.1)) (s.1 + 1)) hC ?_ (fun q1 v1 k1 e1 b1 b1' t t' hR h1 hZ => ?_))
  · refine Rz_ite (Rz_lb hC (gBg_R hC hun h) (fun q1 v1 i1 e1 b1 b1' nm hR h1 => Rz_ss hR zm)) (Rz_ite (Rz_lb hC (gPa_R hC hun h) (fun q1 v1 i1 e1 b1 b1' nm hR h1 => Rz_ss hR zm)) (Rz_ite ?_ (Rz_ite ?_ (Rz_ite ?_ (Rz_lb hC (gSm_R hC hun h) (fun q1 v1 i1 e1 b1 b1' nm hR h1 => Rz_ss hR zm))))))
    · exact ih 2 _ _ _ _ _ _ _ _ _ _ _ _ _ _ _ (by decide) hun h zm
    · exact ih 4 _ _ _ _ _ _ _ _ _ _ _ _ _ _ _ (by decide) hun h zm
    · exact ih 5 _ _ _ _ _ _ _ _ _ _ _ _ _ _ _ (by decide) hun h zm
  · exact Rz_ss (R_set hC hR) (Z1_pl hz.2.1 hZ)
theorem GSR_2 (hC : RC un R) (ih : GSR T n MD un R f) (hun : E.2.2.2.1 = un) (h : R v b b') (hz : Zp DU DP k0 s s') : Rz R (fun _ => Zp DU DP k0) (GS T n MD (f + 1) 2 E lp o q v pe i l b s) (GS T n MD (f + 1) 2 E lp o q v pe i l b' s') := by
  have s1 := (hC.1 v b b' h).1
  simp only [GS, ← s1]
  refine Rz_hT (fun q1 => Rz_hb (Q := fun _ => Zp DU DP k0) hC (ih 3 _ _ _ _ _ _ _ _ _ _ _ _ DU DP k0 (by decide) hun (R_node hC h) hz) (fun q2 v2 k2 e2 b2 b2' t t' hR h1 hZ => ?_))
  dsimp only
  refine Rz_hb (Q := fun _ => Zp DU DP k0) hC (Rz_ite (Rz_hT (fun q3 => Rz_hb (Q := fun _ => Zp DU DP k0) hC (ih 0 _ _ _ _ _ _ _ _ _ _ _ _ DU DP k0 (by decide) hun hR hZ) (fun q4 v4 k4 e4 b4 b4' u u' hR4 h4 hZ4 => ?_))) (Rz_ss hR hZ)) (fun q5 v5 k5 e5 b5 b5' u u' hR5 h5 hZ5 => Rz_hE (fun q6 => Rz_ss hR5 hZ5))
  dsimp only
  rw [← h4]
  exact Rz_ss (R_set hC (R_node hC hR4)) hZ4
theorem GSR_3 (hC : RC un R) (ih : GSR T n MD un R f) (hun : E.2.2.2.1 = un) (h : R v b b') (hz : Zp DU DP k0 s s') : Rz R (fun _ => Zp DU DP k0) (GS T n MD (f + 1) 3 E lp o q v pe i l b s) (GS T n MD (f + 1) 3 E lp o q v pe i l b' s') := by
  simp only [GS]
  refine Rz_hb (Q := fun _ => Zp DU DP k0) hC (Rz_ite (Rz_hT (fun q1 => Rz_ss h hz)) (Rz_lb hC (G_R hC _ _ _ _ _ _ _ _ _ _ _ _ hun h) (fun q1 v1 i1 e1 b1 b1' nm hR h1 => Rz_ss hR hz))) (fun q2 v2 k2 e2 b2 b2' t t' hR h1 hZ => ?_)
  refine Rz_hW (fun q3 => Rz_hb (Q := fun _ => Zp DU DP k0) hC (ih 0 _ _ _ _ _ _ _ _ _ _ _ _ DU DP k0 (by decide) hun hR hz) (fun q4 v4 k4 e4 b4 b4' u u' hR4 h4 hZ4 => ?_))
  dsimp only
  rw [← h4]
  refine Rz_ite (Rz_hT (fun q5 => ih 3 _ _ _ _ _ _ _ _ _ _ _ _ DU DP k0 (by decide) hun (R_ite (R_set hC (R_node hC hR4)) (R_set hC (R_node hC hR4))) hZ4)) (Rz_ss (R_ite (R_set hC (R_node hC hR4)) (R_set hC (R_node hC hR4))) hZ4)
theorem GSR_4 (hC : RC un R) (ih : GSR T n MD un R f) (hun : E.2.2.2.1 = un) (h : R v b b') (hz : Zp DU DP k0 s s') : Rz R (fun _ => Zp DU DP k0) (GS T n MD (f + 1) 4 E lp o q v pe i l b s) (GS T n MD (f + 1) 4 E lp o q v pe i l b' s') := by
  have s1 := (hC.1 v b b' h).1
  simp only [GS, ← s1]
  refine Rz_hT (fun q1 => Rz_lb hC (G_R hC _ _ _ _ _ _ _ _ _ _ _ _ hun (R_node hC h)) (fun q2 v2 i2 e2 b2 b2' nm hR h1 => Rz_hW (fun q3 => Rz_hb (Q := fun _ => Zp DU DP k0) hC (ih 0 _ _ _ _ _ _ _ _ _ _ _ _ DU DP k0 (by decide) hun (R_set hC hR) hz) (fun q4 v4 k4 e4 b4 b4' u u' hR4 h4 hZ4 => Rz_hE (fun q5 => Rz_ss (R_set hC hR4) hZ4)))))
theorem GSR_5 (hC : RC un R) (ih : GSR T n MD un R f) (hun : E.2.2.2.1 = un) (h : R v b b') (hz : Zp DU DP k0 s s') : Rz R (fun _ => Zp DU DP k0) (GS T n MD (f + 1) 5 E lp o q v pe i l b s) (GS T n MD (f + 1) 5 E lp o q v pe i l b' s') := by
  have s1 := (hC.1 v b b' h).1
  simp only [GS, ← s1]
  refine Rz_hT (fun q1 => Rz_lb hC (G_R hC _ _ _ _ _ _ _ _ _ _ _ _ hun (R_node hC h)) (fun q2 v2 i2 e2 b2 b2' nm hR h1 => ?_))
  dsimp only
  refine Rz_hb (Q := fun _ => Zp DU DP k0) hC (Rz_ite (Rz_hT (fun q3 => Rz_lb hC (G_R hC _ _ _ _ _ _ _ _ _ _ _ _ hun (R_set hC hR)) (fun q4 v4 i4 e4 b4 b4' nm4 hR4 h4 => Rz_ss (R_set hC hR4) hz))) (Rz_ss (R_set hC hR) hz)) (fun q5 v5 k5 e5 b5 b5' u u' hR5 h5 hZ5 => ?_)
  refine Rz_hW (fun q6 => Rz_hb (Q := fun _ => Zp DU DP k0) hC (ih 0 _ _ _ _ _ _ _ _ _ _ _ _ DU DP k0 (by decide) hun hR5 hz) (fun q7 v7 k7 e7 b7 b7' w w' hR7 h7 hZ7 => Rz_hE (fun q8 => Rz_ss (R_set hC hR7) hZ7)))
theorem GS_R (hC : RC un R) : ∀ f, GSR T n MD un R f := by
  intro f
  induction f with
  | zero => intro nt E lp o q v pe i l b b' s s' DU DP k0 _ _ _ _; simp only [GS]; exact Rz_0
  | succ f ih =>
    intro nt E lp o q v pe i l b b' s s' DU DP k0 hnt hun h hz
    match nt, hnt with
    | 0, _ => exact GSR_0 hC ih hun h hz
    | 1, _ => exact GSR_1 hC ih hun h hz
    | 2, _ => exact GSR_2 hC ih hun h hz
    | 3, _ => exact GSR_3 hC ih hun h hz
    | 4, _ => exact GSR_4 hC ih hun h hz
    | 5, _ => exact GSR_5 hC ih hun h hz
    | m + 6, hm => exact absurd hm (by omega)
end RZS
