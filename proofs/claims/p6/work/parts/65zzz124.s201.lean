/-! What a tree of nodes must be for its evaluation; the place that an evaluation has (reference). -/
/-- kinds of nodes that go on behind a value -/
def Ov (y : Int32) : Prop := y = 16 ∨ y = 21 ∨ y = 22 ∨ y = 23 ∨ y = 24 ∨ y = 25 ∨ y = 26
/-- how many nodes, how many pooled characters the tables have -/
def LNo (T : Nat → Nat → Int32) : Nat := (T 98 1).toNatClampNeg
def LPo (T : Nat → Nat → Int32) : Nat := (T 98 2).toNatClampNeg
/-- statements, callables -/
def SNo (T : Nat → Nat → Int32) : Nat := (T 98 3).toNatClampNeg
def CNo (T : Nat → Nat → Int32) : Nat := (T 98 4).toNatClampNeg
/-- nodes of a tree (T: the tables; FN: functions and how many params they have). f fuel, O open levels that are left, r rank, K iterators that are left, lc whether locals may be read (0), atoms made (200), draws made (201).
 0 what is evaluated, 1 its beginning, 2 one that goes on, 3 a list of r to evaluate, 4 r iterators, 5 branches, 6 r names -/
def WN (T : Nat → Nat → Int32) (FN : Nat → Nat → Prop) : Nat → Nat → Nat → Nat → Nat → (Nat → Prop) → Int32 → Prop
  | 0, _, _, _, _, _, _ => False
  | f + 1, nt, O, r, K, lc, x =>
    (nt = 0 ∧ 4 ≤ r ∧ ∃ n k, ∃ ch : Nat → Nat, x = nI n ∧ ch k = n ∧ (∀ i, i ≤ k → (1 ≤ ch i ∧ ch i < LNo T % 70001)) ∧ (∀ i, i < k → T 6 (ch (i + 1)) = nI (ch i) ∧ T 9 (ch i) = nI (ch (i + 1))) ∧ ¬ Ov (T 4 (ch 0)) ∧ (∀ i, 1 ≤ i → i ≤ k → Ov (T 4 (ch i)) ∧ WN T FN f 2 O r K lc (nI (ch i))) ∧ WN T FN f 1 O r K lc (nI (ch 0))) ∨
    (nt = 2 ∧ ∃ n, x = nI n ∧ (1 ≤ n ∧ n < LNo T % 70001) ∧ (T 4 n = 26 ∨ ((T 4 n = 16 ∨ T 4 n = 21 ∨ T 4 n = 22 ∨ T 4 n = 23 ∨ T 4 n = 24 ∨ T 4 n = 25) ∧ (∃ O' r', ((O' = O ∧ r' + 2 ≤ r) ∨ (O' < O ∧ r' ≤ 14)) ∧ WN T FN f 0 O' r' K lc (T 7 n)) ∧ (T 4 n = 22 → ∃ O' r', ((O' = O ∧ r' + 2 ≤ r) ∨ (O' < O ∧ r' ≤ 14)) ∧ WN T FN f 0 O' r' K lc (T 8 n))))) ∨
    (nt = 1 ∧ ∃ n, x = nI n ∧ (1 ≤ n ∧ n < LNo T % 70001) ∧ (
      (T 4 n = 1 ∧ ∃ p q, T 5 n = nI p ∧ T 6 n = nI q ∧ q ≤ 60 ∧ p + q ≤ LPo T % 70001 ∧ ∀ i, i < q → ∃ d, d ≤ 300 ∧ T 12 (p + i) = nI d) ∨
      (T 4 n = 2 ∧ ∃ p q, T 5 n = nI p ∧ T 6 n = nI q ∧ q ≤ 60000 ∧ p + q ≤ 70000 ∧ (q = 0 ∨ p + q ≤ LPo T % 70001)) ∨
      (T 4 n = 3 ∨ T 4 n = 4 ∨ T 4 n = 5 ∨ (T 4 n = 6 ∧ lc 200)) ∨
      (T 4 n = 7 ∧ ∃ s, T 6 n = nI s ∧ s < 60 ∧ (T 5 n = 0 ∨ lc 0)) ∨
      (T 4 n = 8 ∧ 1 ≤ O ∧ ∃ fn m c, T 5 n = nI fn ∧ FN fn m ∧ m ≤ 60 ∧ T 8 n = nI c ∧ 21 ≤ c + O ∧ c ≤ 30 ∧ WN T FN f 3 (O - 1) m K lc (T 6 n)) ∨
      ((T 4 n = 9 ∨ T 4 n = 17 ∨ T 4 n = 18 ∨ T 4 n = 19 ∨ T 4 n = 20) ∧ (T 4 n = 9 → lc 201 ∨ ∃ v, T 5 n = nI v ∧ ((39 ≤ v ∧ v ≤ 47) ∨ v = 50)) ∧ ∃ O' r', ((O' = O ∧ r' + 2 ≤ r) ∨ (O' < O ∧ r' ≤ 14)) ∧ WN T FN f 0 O' r' K lc (T 6 n)) ∨
      ((T 4 n = 10 ∨ T 4 n = 11) ∧ 1 ≤ O ∧ ∃ m, m ≤ 70000 ∧ WN T FN f 3 (O - 1) m K lc (T 6 n)) ∨
      (T 4 n = 12 ∧ 1 ≤ O ∧ WN T FN f 0 (O - 1) 14 K lc (T 6 n) ∧ (T 7 n = -1 ∨ WN T FN f 0 (O - 1) 14 K lc (T 7 n)) ∧ WN T FN f 0 (O - 1) 14 K lc (T 8 n)) ∨
      (T 4 n = 13 ∧ 1 ≤ O ∧ ∃ m, 1 ≤ m ∧ m ≤ K ∧ WN T FN f 4 (O - 1) m K lc (T 6 n) ∧ (T 7 n = -1 ∨ WN T FN f 0 (O - 1) 14 (K - m) lc (T 7 n)) ∧ WN T FN f 0 (O - 1) 14 (K - m) lc (T 8 n)) ∨
      (T 4 n = 14 ∧ 1 ≤ O ∧ ∃ m, 1 ≤ m ∧ m ≤ K ∧ WN T FN f 4 (O - 1) m K lc (T 6 n) ∧ WN T FN f 0 (O - 1) 14 (K - m) lc (T 7 n)) ∨
      (T 4 n = 15 ∧ 1 ≤ O ∧ WN T FN f 5 (O - 1) 0 K lc (T 6 n)))) ∨
    (nt = 3 ∧ ((r = 0 ∧ x = -1) ∨ ∃ m n, r = m + 1 ∧ x = nI n ∧ (1 ≤ n ∧ n < LNo T % 70001) ∧ WN T FN f 0 O 14 K lc x ∧ WN T FN f 3 O m K lc (T 9 n))) ∨
    (nt = 4 ∧ ((r = 0 ∧ x = -1) ∨ ∃ m n q, r = m + 1 ∧ x = nI n ∧ (1 ≤ n ∧ n < LNo T % 70001) ∧ 1 ≤ K ∧ (1 ≤ q ∧ q ≤ 70000) ∧ WN T FN f 6 O q K lc (T 6 n) ∧ WN T FN f 0 O 14 K lc (T 7 n) ∧ WN T FN f 4 O m (K - 1) lc (T 9 n))) ∨
    (nt = 5 ∧ ∃ n, x = nI n ∧ (1 ≤ n ∧ n < LNo T % 70001) ∧ WN T FN f 0 O 14 K lc (T 6 n) ∧ (T 5 n = -1 ∨ (WN T FN f 0 O 14 K lc (T 5 n) ∧ WN T FN f 5 O 0 K lc (T 9 n)))) ∨
    (nt = 6 ∧ ((r = 0 ∧ x = -1) ∨ ∃ m n s, r = m + 1 ∧ x = nI n ∧ (1 ≤ n ∧ n < LNo T % 70001) ∧ T 6 n = nI s ∧ s < 60 ∧ ((T 5 n = 0 ∨ lc 0) ∧ lc (if T 5 n = 0 then 1 + s else 61 + s)) ∧ WN T FN f 6 O m K lc (T 9 n)))
/-- within a function -/
def lcF (j : Nat) : Prop := j = 0 ∨ (61 ≤ j ∧ j ≤ 120)
/-- names that don't count (1 + s: of the program, 61 + s: of a proc's call) -/
def LcU (lc : Nat → Prop) (c : Nat) (σ : MS) : Prop := (∀ s, s < 60 → lc (1 + s) → kC σ s = 0) ∧ (∀ s, s < 60 → lc (61 + s) → σ.1 69 = 0 → 1 ≤ c → kC σ (60 * (1 + (σ.2.2 30 (65 + 3 * (c - 1))).toNatClampNeg) + s) = 0)
/-- tables and functions of a state -/
def STb (T : Nat → Nat → Int32) (FN : Nat → Nat → Prop) (σ : MS) : Prop := (∀ a i, 4 ≤ a → a ≤ 11 → ((a ≤ 9 → (1 ≤ i ∧ i < LNo T % 70001)) ∧ (10 ≤ a → i < SNo T % 402)) → σ.2.2 a i = T a i) ∧ (∀ fn m, FN fn m → fn < CNo T % 42 ∧ m ≤ 60 ∧ σ.2.2 18 fn = nI m ∧ ∃ F b, σ.2.2 17 fn = nI b ∧ (1 ≤ b ∧ b < LNo T % 70001) ∧ WN T FN F 0 20 14 60 lcF (nI b)) ∧ (∀ i, i < LPo T % 70001 → σ.2.2 12 i = T 12 i) ∧ σ.1 22 = nI (LNo T % 70001) ∧ σ.1 24 = nI (LPo T % 70001) ∧ σ.1 30 = nI (CNo T % 42) ∧ σ.1 44 = nI (SNo T % 402)
/-- where the frame of the last call begins (with no call: the exp that is worked alone) -/
def fb (fu : Nat) : Nat := if fu = 0 then 0 else 60 * (1 + fu)
theorem fb_le {fu : Nat} (h : fu ≤ 20) : fb fu ≤ 1260 := by
  unfold fb
  split <;> omega
theorem fb_s {fu : Nat} : fb (fu + 1) = 60 * (1 + (fu + 1)) := if_neg (Nat.succ_ne_zero fu)
/-- where an evaluation stands: calls of functions fu, depth dp, e iterators open -/
def Cx (lc : Nat → Prop) (fu dp e : Nat) (σ : MS) : Prop := σ.1 67 = nI fu ∧ fu ≤ 20 ∧ σ.1 97 = nI dp ∧ dp ≤ 60 ∧ σ.1 72 = nI e ∧ (∃ c, σ.2.2 30 1 = nI c ∧ c ≤ 50 ∧ (lc 0 → σ.1 69 = 1 ∨ (σ.1 69 = 0 ∧ 1 ≤ c)) ∧ LcU lc c σ) ∧ (σ.1 69 = 0 ∨ (σ.1 69 = 1 ∧ σ.1 68 = nI (fb fu)))
section WST
variable {T : Nat → Nat → Int32} {FN : Nat → Nat → Prop} {σ τ ρ : MS} {lc : Nat → Prop} {fu dp e : Nat}
theorem STb_b (hS : STb T FN σ) (sc : ∀ j, j = 22 ∨ j = 24 ∨ j = 30 ∨ j = 44 → ρ.1 j = σ.1 j) (h : ∀ a i, (4 ≤ a ∧ a ≤ 11 ∧ (a ≤ 9 → (1 ≤ i ∧ i < (σ.1 22).toNatClampNeg)) ∧ (10 ≤ a → i < (σ.1 44).toNatClampNeg)) ∨ (a = 12 ∧ i < (σ.1 24).toNatClampNeg) ∨ ((a = 17 ∨ a = 18) ∧ i < (σ.1 30).toNatClampNeg) → ρ.2.2 a i = σ.2.2 a i) : STb T FN ρ := by
  obtain ⟨h1, h2, h3, h4, h5, h6, h7⟩ := hS
  refine ⟨fun a i q1 q2 q3 => ?_, fun fn m q => ?_, fun i q => ?_, (sc 22 (by omega)).trans h4, (sc 24 (by omega)).trans h5, (sc 30 (by omega)).trans h6, (sc 44 (by omega)).trans h7⟩
  · rw [h a i (Or.inl ⟨q1, q2, fun q => by rw [h4, n_cl (p := LNo T % 70001) (by omega)]; exact q3.1 q, fun q => by rw [h7, n_cl (p := SNo T % 402) (by omega)]; exact q3.2 q⟩)]; exact h1 a i q1 q2 q3
  · have hf := (h2 fn m q).1
    have c : fn < (σ.1 30).toNatClampNeg := by rw [h6, n_cl (p := CNo T % 42) (by omega)]; exact hf
    rw [h 17 fn (Or.inr (Or.inr ⟨Or.inl rfl, c⟩)), h 18 fn (Or.inr (Or.inr ⟨Or.inr rfl, c⟩))]; exact h2 fn m q
  · rw [h 12 i (Or.inr (Or.inl ⟨rfl, by rw [h5, n_cl (p := LPo T % 70001) (by omega)]; exact q⟩))]; exact h3 i q
theorem STb_nt (hS : STb T FN σ) {i : Nat} (hi : (1 ≤ i ∧ i < LNo T % 70001)) : 1 ≤ i ∧ i < (σ.1 22).toNatClampNeg := by
  rw [hS.2.2.2.1, n_cl (p := LNo T % 70001) (by omega)]; exact hi
theorem STb_30 (hS : STb T FN σ) {i : Nat} (hi : i < CNo T % 42) : i < (σ.1 30).toNatClampNeg := by
  rw [hS.2.2.2.2.2.1, n_cl (p := CNo T % 42) (by omega)]; exact hi
theorem STb_fe {N : Nat → Nat → Prop} (hS : STb T FN σ) (hF : FEn N σ ρ) : STb T FN ρ := STb_b hS (fun j hj => hF.1 j (by unfold AlS; omega) (by omega) (by omega) (by omega)) (fun a i h => hF.2.1 a i (by unfold AlR; omega) (by unfold Zn; omega) (fun z => by omega))
theorem LcU_c {c : Nat} (hc : c ≤ 50) (h : LcU lc c σ) (h69 : ρ.1 69 = σ.1 69) (h20 : ∀ i, kC ρ i = kC σ i) (d1 : σ.2.2 30 1 = nI c) (h30 : ∀ i, ¬ Zn 30 i → ¬ InA σ 30 i → ρ.2.2 30 i = σ.2.2 30 i) : LcU lc c ρ := by
  refine ⟨fun s hs z => by rw [h20]; exact h.1 s hs z, fun s hs z z69 z1 => ?_⟩
  rw [h20, h30 _ (by unfold Zn; omega) (InA_cl d1 hc (by omega))]
  exact h.2 s hs z (h69.symm.trans z69) z1
theorem Cx_b (hC : Cx lc fu dp e σ) (sc : ∀ j, j = 67 ∨ j = 97 ∨ j = 72 ∨ j = 69 ∨ j = 68 → ρ.1 j = σ.1 j) (h20 : ∀ i, kC ρ i = kC σ i) (h30 : ∀ i, ¬ Zn 30 i → ¬ InA σ 30 i → ρ.2.2 30 i = σ.2.2 30 i) : Cx lc fu dp e ρ := by
  obtain ⟨c1, c2, c3, c4, c5, ⟨c, d1, d2, d3, d4⟩, c7⟩ := hC
  refine ⟨(sc 67 (by omega)).trans c1, c2, (sc 97 (by omega)).trans c3, c4, (sc 72 (by omega)).trans c5, ⟨c, (h30 1 (by unfold Zn; omega) (InA_4 (by omega))).trans d1, d2, ?_, LcU_c d2 d4 (sc 69 (by omega)) h20 d1 h30⟩, ?_⟩
  · rw [sc 69 (by omega)]; exact d3
  · rw [sc 69 (by omega), sc 68 (by omega)]; exact c7
theorem Cx_fe {N : Nat → Nat → Prop} (hC : Cx lc fu dp e σ) (hF : FEn N σ ρ) : Cx lc fu dp e ρ := Cx_b hC (fun j hj => hF.1 j (by unfold AlS; omega) (by omega) (by omega) (by omega)) (FEn_b hF).2.1 (fun i h _ => (FEn_b hF).2.2.1 i h)
theorem STb_ra {t : Nat} {g1 g2 : Nat → Prop} {σ1 σ2 : MS} (hR : RA t g1 g2 σ1 σ2) (hS : STb T FN σ1) : STb T FN σ2 := STb_b hS (fun j hj => (hR.2.2.1 j (by unfold AlS; omega)).symm) (fun a i h => (hR.2.1 a i (by unfold AlR; omega) (by unfold Zn; omega) (by unfold InA StU; omega)).symm)
theorem Cx_ra {t : Nat} {g1 g2 : Nat → Prop} {σ1 σ2 : MS} (hR : RA t g1 g2 σ1 σ2) (hC : Cx lc fu dp e σ1) : Cx lc fu dp e σ2 := Cx_b hC (fun j hj => (hR.2.2.1 j (by unfold AlS; omega)).symm) (kC_ra hR) (fun i h h' => (hR.2.1 30 i (by unfold AlR; omega) h h').symm)
end WST
section ESW
variable {t w XC : Nat} {σ1 σ2 : MS}
/-- both sweep -/
theorem E_sw (hXC : XC ≤ 408500) (ht : t ≤ 185000) (hE : EI t w XC σ1 σ2) : T2 (fun k => x_sweep k 0 (upd (fun _ => 0) 1 780000) σ1) (fun k => x_sweep k 0 (upd (fun _ => 0) 1 780000) σ2) (fun r1 r2 => FE σ1 r1.2 ∧ FE σ2 r2.2 ∧ ∃ (g1 : Nat → Prop) (l1 : List Nat) (B1 h1 X1 : Nat) (g2 : Nat → Prop) (l2 : List Nat) (B2 h2 X2 : Nat), EIx t w XC r1.2 r2.2 g1 l1 B1 h1 X1 g2 l2 B2 h2 X2 ∧ h1 + 79900 ≤ B1 + 870000 ∧ h2 + 79900 ≤ B2 + 870000) := by
  obtain ⟨g1, l1, B1, h1, X1, g2, l2, B2, h2, X2, m1, m2, hR, i1, i2, t1, e1, e2, w1, hw, x1, x2, ⟨ty1, ty2⟩, a, a1, a2⟩ := hE
  have t2 : σ2.1 59 = nI t := (hR.2.2.1 59 (by unfold AlS; omega)).symm.trans t1
  refine T2_mono (T2_of (MI_sw (T := 780000) m1 t1 ht rfl (by decide)) (MI_sw (T := 780000) m2 t2 ht rfl (by decide)) (fun n => k_sweep (XM := 780000) (by omega) m1 m2 hR t1 ht (by omega) (by omega) rfl rfl)) (fun r1 r2 hr => ?_)
  obtain ⟨⟨gA, lA, BA, hA, gB, lB, BB, hB, a1', a2', a3, a4, a5, a6, a7, a8, a9⟩, _, _⟩ := hr
  have f1 := FE_eo m1.2.1 a4
  have f2 := FE_eo m2.2.1 a5
  refine ⟨f1, f2, gA, lA, BA, hA, X1, gB, lB, BB, hB, X2, ⟨a1', a2', a3, IT_eo m1.2.1 m1.1 (Or.inr ⟨BA, hA, a1'.1⟩) a4 i1, IT_eo m2.2.1 m2.1 (Or.inr ⟨BB, hB, a2'.1⟩) a5 i2, (a6 59 (by decide) (by decide)).trans t1, (a6 56 (by decide) (by decide)).trans e1, (a7 56 (by decide) (by decide)).trans e2, (a6 57 (by decide) (by decide)).trans w1, ⟨hw.1, by omega, by omega⟩, x1, x2, ⟨?_, ?_⟩, a, ?_, a2⟩, a8, a9⟩
  · rw [f1.2.2.1]; exact ty1
  · rw [f1.2.2.1, f2.2.2.1]; exact ty2
  · exact (a6 95 (by decide) (by decide)).trans a1
/-- a value that can be reached is pushed -/
theorem E_pr {x y : Int32} (hE : EI t w XC σ1 σ2) (ht : t < 185000) (hx : ∀ (g1 : Nat → Prop) (l1 : List Nat) (B1 h1 X1 : Nat) (g2 : Nat → Prop) (l2 : List Nat) (B2 h2 X2 : Nat), EIx t w XC σ1 σ2 g1 l1 B1 h1 X1 g2 l2 B2 h2 X2 → VC g1 g2 (σ1.2.2 28) (σ2.2.2 28) x y ∧ (∃ m, x = nI m ∧ (m < 3 ∨ Rch (σ1.2.2 28) (RoS t σ1) m)) ∧ ∃ m, y = nI m ∧ (m < 3 ∨ Rch (σ2.2.2 28) (RoS t σ2) m)) {L1 L2 : Nat → Int32} (d1 : L1 1 = x) (d2 : L2 1 = y) : T2 (fun k => x_push k 0 L1 σ1) (fun k => x_push k 0 L2 σ2) (fun r1 r2 => FE σ1 r1.2 ∧ FE σ2 r2.2 ∧ EI (t + 1) w XC r1.2 r2.2) := by
  obtain ⟨g1, l1, B1, h1, X1, g2, l2, B2, h2, X2, hX⟩ := hE
  obtain ⟨hv, ⟨m, mm1, mm2⟩, ⟨q, q1, q2⟩⟩ := hx g1 l1 B1 h1 X1 g2 l2 B2 h2 X2 hX
  obtain ⟨m1, m2, hR, i1, i2, t1, e1, e2, w1, hw, x1, x2, ⟨ty1, ty2⟩, a, a1, a2⟩ := hX
  have t2 : σ2.1 59 = nI t := (hR.2.2.1 59 (by unfold AlS; omega)).symm.trans t1
  refine T2_mono (T2_t (s_push t1 ht L1) (s_push t2 ht L2)) (fun r1 r2 hr => ?_)
  rw [hr.1, hr.2, d1, d2]
  refine ⟨FE_pu, FE_pu, g1, l1, B1, h1, X1, g2, l2, B2, h2, X2, ?_, ?_, RA_pu m1.2.1 hR hv, IT_c (mPu_s (by decide)) (mPu_o (by decide)) (mPu_o (by decide)) (mPu_o (by decide)) i1, IT_c (mPu_s (by decide)) (mPu_o (by decide)) (mPu_o (by decide)) (mPu_o (by decide)) i2, rfl, ?_, ?_, ?_, hw, x1, x2, ⟨?_, ?_⟩, a, ?_, a2⟩
  · rw [mm1]; exact MI_pur m1 mm2
  · rw [q1]; exact MI_pur m2 q2
  · rw [mPu_s (by decide)]; exact e1
  · rw [mPu_s (by decide)]; exact e2
  · rw [mPu_s (by decide)]; exact w1
  · rw [mPu_o (by decide)]; exact ty1
  · rw [mPu_o (by decide), mPu_o (by decide)]; exact ty2
  · rw [mPu_s (by decide)]; exact a1
/-- om, a truth -/
theorem E_pc {c : Nat} (hc : c < 3) (hE : EI t w XC σ1 σ2) (ht : t < 185000) {L1 L2 : Nat → Int32} (d1 : L1 1 = nI c) (d2 : L2 1 = nI c) : T2 (fun k => x_push k 0 L1 σ1) (fun k => x_push k 0 L2 σ2) (fun r1 r2 => FE σ1 r1.2 ∧ FE σ2 r2.2 ∧ EI (t + 1) w XC r1.2 r2.2) :=
  E_pr hE ht (fun g1 l1 B1 h1 X1 g2 l2 B2 h2 X2 _ => ⟨⟨c, c, rfl, Or.inl hc, rfl, Or.inl hc, EVb_0 hc, by omega, by omega⟩, ⟨c, rfl, Or.inl hc⟩, ⟨c, rfl, Or.inl hc⟩⟩) d1 d2
/-- what lies at a place for values, below the iterators, is pushed -/
theorem E_prt {a i : Nat} (hE : EI t w XC σ1 σ2) (ht : t < 185000) (hr : RtP t σ1 a i) (hv : ¬ VwR a) {L1 L2 : Nat → Int32} (d1 : L1 1 = σ1.2.2 a i) (d2 : L2 1 = σ2.2.2 a i) : T2 (fun k => x_push k 0 L1 σ1) (fun k => x_push k 0 L2 σ2) (fun r1 r2 => FE σ1 r1.2 ∧ FE σ2 r2.2 ∧ EI (t + 1) w XC r1.2 r2.2) := by
  refine E_pr hE ht (fun g1 l1 B1 h1 X1 g2 l2 B2 h2 X2 hX => ?_) d1 d2
  obtain ⟨m1, m2, hR, _⟩ := hX
  have vc := hR.1 a i hr hv
  have hr2 := (RA_rt m1.2.1 hR t a i).mpr hr
  refine ⟨vc, ?_, ?_⟩
  · obtain ⟨m, q1, q2⟩ := m1.2.2.1 a i hr
    refine ⟨m, q1, ?_⟩
    by_cases c : m < 3
    · exact Or.inl c
    · exact Or.inr (Rch_b ⟨by omega, HS_vb m1.1 q2, a, i, hr, q1⟩)
  · obtain ⟨m, q1, q2⟩ := m2.2.2.1 a i hr2
    refine ⟨m, q1, ?_⟩
    by_cases c : m < 3
    · exact Or.inl c
    · exact Or.inr (Rch_b ⟨by omega, HS_vb m2.1 q2, a, i, hr2, q1⟩)
end ESW
