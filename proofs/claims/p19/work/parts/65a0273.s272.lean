section JnS272
/-! Two states of one program, whatever was run and asked in between: set back, they are alike (reference). -/
/-- what all states of one program have in common: C the names of types, K flags, e0 the first statement, z0 where a run with no statement stands, sd its seed -/
def RIc (T : Nat → Nat → Int32) (FN : Nat → Nat → Prop) (C K : Nat → Int32) (e0 z0 x66 x68 : Int32) (sd : Int64) (σ : MS) : Prop := (∃ (g : Nat → Prop) (l : List Nat) (B h X : Nat), MI 0 X g l B h σ) ∧ Bz T FN σ ∧ (∀ i, i < 1380 → σ.2.2 33 i = 0) ∧ (TyT C ∧ σ.2.2 2 = C) ∧ True ∧ σ.1 110 = e0 ∧ (e0 = -1 → σ.2.2 30 0 = z0) ∧ σ.1 66 = x66 ∧ σ.1 68 = x68 ∧ σ.2.1 113 = sd
section RS3
variable {T : Nat → Nat → Int32} {FN : Nat → Nat → Prop} {S : Nat → Nat → Nat → Nat → Prop} {σ ρ σ1 σ2 ρ1 ρ2 : MS} {C K : Nat → Int32} {e0 z0 x66 x68 : Int32} {sd : Int64} {g1 g2 : Nat → Prop}
theorem Bz_hd (B1 : Bz T FN σ) (B2 : Bz T FN ρ) (u : Nat) : hdU (ρ.1 30) (ρ.2.2 21) u = hdU (σ.1 30) (σ.2.2 21) u := by
  unfold hdU
  rw [B1.1.2.2.2.2.2.1, B2.1.2.2.2.2.2.1, n_cl (p := CNo T % 42) (by omega)]
  by_cases z : u ≤ CNo T % 42
  · rw [if_pos z, if_pos z, B1.2.1 21 u (by omega) (by omega) (by omega), B2.2.1 21 u (by omega) (by omega) (by omega)]
  · rw [if_neg z, if_neg z]
/-- what is in use -/
theorem InA_zz {x i : Nat} (hx : AlR x) (hc : ¬ (30 ≤ x ∧ x ≤ 32)) (hz : ¬ Zn x i) (hn : ¬ InA (zB σ 0 0) x i) : ((x = 10 ∨ x = 11 ∨ (17 ≤ x ∧ x ≤ 21)) ∧ ¬ StU (σ.1 30) (σ.1 44) (σ.2.2 21) x i) ∨ (4 ≤ x ∧ x ≤ 9 ∧ (1 ≤ i ∧ i < (σ.1 22).toNatClampNeg)) ∨ (x = 12 ∧ i < (σ.1 24).toNatClampNeg) := by
  have e22 : (zB σ 0 0).1 22 = σ.1 22 := zB_s (by omega)
  have e24 : (zB σ 0 0).1 24 = σ.1 24 := zB_s (by omega)
  have n35 : ¬ x = 35 := fun e => hn (Or.inr (Or.inr (Or.inr (Or.inl ⟨e, by rw [show (zB σ 0 0).1 72 = 0 from rfl, show (0 : Int32).toNatClampNeg = 0 from by decide]; exact Nat.zero_le _⟩))))
  have n50 : ¬ x = 50 := fun e => hn (Or.inr (Or.inr (Or.inr (Or.inr (Or.inl e)))))
  have n9 : 4 ≤ x ∧ x ≤ 9 → ¬ ((σ.1 22).toNatClampNeg ≤ i ∨ i = 0) := fun c z => hn (Or.inr (Or.inr (Or.inr (Or.inr (Or.inr (Or.inl ⟨c.1, c.2, by rw [e22]; exact z⟩))))))
  have n12 : x = 12 → ¬ (σ.1 24).toNatClampNeg ≤ i := fun c z => hn (Or.inr (Or.inr (Or.inr (Or.inr (Or.inr (Or.inr (Or.inl ⟨c, by rw [e24]; exact z⟩)))))))
  have e30 : (zB σ 0 0).1 30 = σ.1 30 := zB_s (by omega)
  have e44 : (zB σ 0 0).1 44 = σ.1 44 := zB_s (by omega)
  have nU : 10 ≤ x → x ≤ 21 → ¬ StU (σ.1 30) (σ.1 44) (σ.2.2 21) x i := fun c c' z => hn (Or.inr (Or.inr (Or.inr (Or.inr (Or.inr (Or.inr (Or.inr ⟨c, c', by rw [e30, e44]; exact z⟩)))))))
  have n34 : ¬ (x = 33 ∨ x = 34) := fun z => hz (by unfold Zn; omega)
  clear hn hz e22 e24 e30 e44
  unfold AlR at hx
  by_cases c1 : 4 ≤ x ∧ x ≤ 9
  · have := n9 c1; omega
  by_cases c2 : x = 12
  · have := n12 c2; omega
  have c3 : x = 10 ∨ x = 11 ∨ (17 ≤ x ∧ x ≤ 21) := by
    clear n9 n12 nU
    omega
  exact Or.inl ⟨c3, nU (by omega) (by omega)⟩
theorem RA_rs1 (h1 : Rs1 σ1 ρ1) (h2 : Rs1 σ2 ρ2) (q1 : RIc T FN C K e0 z0 x66 x68 sd σ1) (q2 : RIc T FN C K e0 z0 x66 x68 sd σ2) : RA 0 g1 g2 (zB ρ1 0 0) (zB ρ2 0 0) := by
  obtain ⟨_, b1, c1, d1, k1, e1, z1, y1, w1, s1⟩ := q1
  obtain ⟨_, b2, c2, d2, k2, e2, z2, y2, w2, s2⟩ := q2
  have B1 := Bz_rs1 h1 b1
  have B2 := Bz_rs1 h2 b2
  obtain ⟨a1, a2, a3, a4, a5, a6, a7, a8, a9⟩ := h1
  obtain ⟨f1, f2, f3, f4, f5, f6, f7, f8, f9⟩ := h2
  have t63 : (zB ρ1 0 0).1 63 = 0 := (zB_s (by omega)).trans (a2 63 (by omega))
  have t72 : (zB ρ1 0 0).1 72 = 0 := zB_0 (by omega)
  have t22 : (zB ρ1 0 0).1 22 = nI (LNo T % 70001) := (zB_s (by omega)).trans B1.1.2.2.2.1
  have t24 : (zB ρ1 0 0).1 24 = nI (LPo T % 70001) := (zB_s (by omega)).trans B1.1.2.2.2.2.1
  have t30 : (zB ρ1 0 0).1 30 = nI (CNo T % 42) := (zB_s (by omega)).trans B1.1.2.2.2.2.2.1
  have t44 : (zB ρ1 0 0).1 44 = nI (SNo T % 402) := (zB_s (by omega)).trans B1.1.2.2.2.2.2.2
  have n0 : (0 : Int32).toNatClampNeg = 0 := by decide
  have fe : fl1 σ1 = fl1 σ2 := by
    funext s
    unfold fl1
    rw [b1.2.2 s, b2.2.2 s]
  refine ⟨fun a i z hv => ?_, fun a i ha hz hn => ?_, fun j hj => ?_, ?_⟩
  · show VC g1 g2 (ρ1.2.2 28) (ρ2.2.2 28) (ρ1.2.2 a i) (ρ2.2.2 a i)
    unfold RtP at z
    rw [t63, t72, n0] at z
    rcases z with z | ⟨z, y⟩ | ⟨z, p, hp, y⟩ | z | z | z | z | z | z
    · omega
    · have y : StI (ρ1.2.2 30) 0 i := y
      unfold StI at y
      rw [show (0 + 1) = 1 from rfl, show (0 + 3) = 3 from rfl, a8 1 (by omega) (by omega), a8 3 (by omega) (by omega), n0] at y
      rw [z, a8 i (by omega) (by omega), f8 i (by omega) (by omega)]; exact VC_00
    · omega
    · rw [z.1, a7 33 (by decide), f7 33 (by decide), c1 i z.2, c2 i z.2]; exact VC_00
    · omega
    · exact absurd (Or.inl z.1) hv
    · exact absurd (Or.inr (Or.inl z.1)) hv
    · exact absurd (Or.inr (Or.inr (Or.inl z.1))) hv
    · exact absurd (Or.inr (Or.inr (Or.inr z.1))) hv
  · show ρ1.2.2 a i = ρ2.2.2 a i
    by_cases c30 : 30 ≤ a ∧ a ≤ 32
    · unfold InA IaN at hn
      rw [t63, t72, n0] at hn
      have r1 : (zB ρ1 0 0).2.2 30 (0 + 1) = 0 := a8 1 (by omega) (by omega)
      have r2 : (zB ρ1 0 0).2.2 30 (0 + 2) = 0 := a8 2 (by omega) (by omega)
      have r3 : (zB ρ1 0 0).2.2 30 (0 + 3) = 0 := a8 3 (by omega) (by omega)
      rw [r1, r2, r3, n0] at hn
      by_cases e30 : a = 30
      · subst e30
        unfold Zn at hz
        by_cases ei : i = 0
        · rw [ei, a9, f9, e1, e2]
          by_cases z : e0 = -1
          · rw [if_pos z, if_pos z, z1 z, z2 z]
          · rw [if_neg z, if_neg z]
        · have hn1 : ¬ ((64 ≤ i ∧ i < 3214) ∨ (3214 ≤ i ∧ i < 8414) ∨ 8414 ≤ i) := fun z => hn (Or.inl ⟨rfl, by omega⟩)
          have : i < 4 := by
            clear hn
            omega
          rw [a8 i (by omega) (by omega), f8 i (by omega) (by omega)]
      · exfalso
        have : a = 31 ∨ a = 32 := by omega
        rcases this with e | e
        · exact hn (Or.inr (Or.inl ⟨e, Or.inl (Nat.zero_le _)⟩))
        · exact hn (Or.inr (Or.inr (Or.inl ⟨e, Nat.zero_le _⟩)))
    have i30 : ρ1.1 30 = nI (CNo T % 42) := B1.1.2.2.2.2.2.1
    have i44 : ρ1.1 44 = nI (SNo T % 402) := B1.1.2.2.2.2.2.2
    rcases InA_zz (σ := ρ1) ha c30 hz hn with ⟨c3, hu⟩ | c1 | c2
    · clear hn hz ha
      unfold StU at hu
      by_cases e20 : a = 20
      · subst e20
        have h6 : i < 2520 ∧ i % 60 < hdU (ρ1.1 30) (ρ1.2.2 21) (i / 60) := by omega
        rw [← kC_of (σ := ρ1) h6.1 h6.2, ← kC_of (σ := ρ2) h6.1 (by rw [Bz_hd B1 B2]; exact h6.2), B1.2.2, B2.2.2]
      rw [i30, i44, n_cl (p := CNo T % 42) (by omega), n_cl (p := SNo T % 402) (by omega)] at hu
      by_cases e10 : a = 10 ∨ a = 11
      · rw [B1.1.1 a i (by omega) (by omega) ⟨fun z => by omega, fun _ => by omega⟩, B2.1.1 a i (by omega) (by omega) ⟨fun z => by omega, fun _ => by omega⟩]
      · rw [B1.2.1 a i (by omega) (by omega) (by omega), B2.2.1 a i (by omega) (by omega) (by omega)]
    · have i22 : (ρ1.1 22).toNatClampNeg = LNo T % 70001 := by rw [B1.1.2.2.2.1, n_cl (p := LNo T % 70001) (by omega)]
      rw [i22] at c1
      rw [B1.1.1 a i c1.1 (by omega) ⟨fun _ => c1.2.2, fun z => by omega⟩, B2.1.1 a i c1.1 (by omega) ⟨fun _ => c1.2.2, fun z => by omega⟩]
    · have i24 : (ρ1.1 24).toNatClampNeg = LPo T % 70001 := by rw [B1.1.2.2.2.2.1, n_cl (p := LPo T % 70001) (by omega)]
      rw [i24] at c2
      rw [c2.1, B1.1.2.2.1 i c2.2, B2.1.2.2.1 i c2.2]
  · by_cases c : j = 57 ∨ j = 59 ∨ j = 72 ∨ j = 56 ∨ j = 67 ∨ j = 97 ∨ j = 69
    · rw [zB_0 c, zB_0 c]
    by_cases e3 : j = 103
    · rw [e3]; rfl
    by_cases e4 : j = 104
    · rw [e4]; rfl
    rw [zB_s (by omega), zB_s (by omega)]
    by_cases c0 : j = 63 ∨ j = 65 ∨ j = 95 ∨ j = 106
    · rw [a2 j (by omega), f2 j (by omega)]
    by_cases e : j = 64
    · rw [e, a4, f4, fe]
    by_cases e2' : j = 102
    · rw [e2', a5, f5, e1, e2]
    rw [a6 j (by unfold AlS at hj; omega), f6 j (by unfold AlS at hj; omega)]
    by_cases g0 : j = 66
    · rw [g0, y1, y2]
    by_cases g1' : j = 68
    · rw [g1', w1, w2]
    by_cases g3 : j = 110
    · rw [g3, e1, e2]
    by_cases g4 : j = 22
    · rw [g4, b1.1.2.2.2.1, b2.1.2.2.2.1]
    by_cases g5 : j = 24
    · rw [g5, b1.1.2.2.2.2.1, b2.1.2.2.2.2.1]
    by_cases g6 : j = 30
    · rw [g6, b1.1.2.2.2.2.2.1, b2.1.2.2.2.2.2.1]
    by_cases g7 : j = 44
    · rw [g7, b1.1.2.2.2.2.2.2, b2.1.2.2.2.2.2.2]
    unfold AlS at hj
    omega
  · show ρ1.2.1 96 = ρ2.2.1 96
    rw [a1.1, f1.1, s1, s2]
/-- set back: alike, at the first statement or at the end -/
theorem E_reset {ns : Nat} (h21 : T 21 0 = nI ns) (hns : ns ≤ 60) (hS : e0 = -1 ∨ ∃ v n, e0 = nI n ∧ S 0 0 v n) (q1 : RIc T FN C K e0 z0 x66 x68 sd σ1) (q2 : RIc T FN C K e0 z0 x66 x68 sd σ2) {L1 L2 : Nat → Int32} : T2 (fun k => x_reset k 0 L1 σ1) (fun k => x_reset k 0 L2 σ2) (fun r1 r2 => IVs T FN S r1.2 r2.2 ∧ r1.2.1 103 = 0 ∧ r2.2.1 103 = 0 ∧ Rs1 σ1 r1.2 ∧ Rs1 σ2 r2.2) := by
  have p1 : σ1.2.2 21 0 = nI ns := (q1.2.1.2.1 21 0 (by omega) (by omega) (by omega)).trans h21
  have p2 : σ2.2.2 21 0 = nI ns := (q2.2.1.2.1 21 0 (by omega) (by omega) (by omega)).trans h21
  refine T2_mono (T2_t (E_rs1 p1 hns) (E_rs1 p2 hns)) (fun r1 r2 hr => ?_)
  obtain ⟨h1, h2⟩ := hr
  obtain ⟨g1, l1, B1, hh1, X1, m1⟩ := q1.1
  obtain ⟨g2, l2, B2, hh2, X2, m2⟩ := q2.1
  refine ⟨⟨⟨⟨g1, l1, B1, hh1, X1, g2, l2, B2, hh2, X2, MI_rs1 h1 m1, MI_rs1 h2 m2, RA_rs1 h1 h2 q1 q2⟩, ?_, ⟨?_, ?_⟩, ⟨0, h1.2.1 95 (by omega), by omega⟩, UT_rs1 h1 q1.2.2.1, UT_rs1 h2 q2.2.2.1, Bz_rs1 h1 q1.2.1, Bz_rs1 h2 q2.2.1, fun p hp => ?_, ⟨0, h1.2.1 106 (by omega), by omega⟩⟩, ?_⟩, h1.2.1 103 (by omega), h2.2.1 103 (by omega), h1, h2⟩
  · rw [h1.2.1 103 (by omega), h2.2.1 103 (by omega)]
  · rw [h1.2.2.2.2.2.2.1 2 (by decide), q1.2.2.2.1.2]; exact q1.2.2.2.1.1
  · rw [h1.2.2.2.2.2.2.1 2 (by decide), h2.2.2.2.2.2.2.1 2 (by decide), q1.2.2.2.1.2, q2.2.2.2.1.2]
  · rw [h1.2.1 63 (by omega), show (0 : Int32).toNatClampNeg = 0 from by decide] at hp
    exact absurd hp (by omega)
  · have e1 : σ1.1 110 = e0 := q1.2.2.2.2.2.1
    rcases hS with z | ⟨v, n, z, s⟩
    · refine Or.inr ?_
      rw [h1.2.2.2.2.1, e1, if_pos z]
    · by_cases c : e0 = -1
      · refine Or.inr ?_
        rw [h1.2.2.2.2.1, e1, if_pos c]
      · refine Or.inl ⟨0, 0, 0, v, n, [], ⟨by omega, h1.2.2.2.2.2.2.2.1 1 (by omega) (by omega), ⟨rfl, s, rfl⟩, h1.2.2.2.2.2.2.2.1 2 (by omega) (by omega), trivial, h1.2.2.2.2.2.2.2.1 3 (by omega) (by omega), fun i hi => absurd hi (Nat.not_lt_zero _)⟩, ?_⟩
        rw [h1.2.2.2.2.2.2.2.2, e1, if_neg c, z]
end RS3
end JnS272
section JnS273
/-! Going back (reference): the first m statements of a program come out alike from whatever state it is set back. -/
/-- m statements are begun -/
def itB : Nat → Nat → MS → Option (Int32 × MS)
  | 0, _, ρ => some (0, ρ)
  | m + 1, k, ρ => ob (itB m k ρ) (fun r => x_begin k 0 (upd (fun _ => 0) 1 (r.2.2.2 30 0)) r.2)
/-- set back, then m statements -/
def rsB (m k : Nat) (σ : MS) : Option (Int32 × MS) := ob (x_reset k 0 (fun _ => 0) σ) (fun r => itB m k r.2)
theorem rsB_s (m k : Nat) (σ : MS) : rsB (m + 1) k σ = ob (rsB m k σ) (fun r => x_begin k 0 (upd (fun _ => 0) 1 (r.2.2.2 30 0)) r.2) := by
  unfold rsB
  cases x_reset k 0 (fun _ => 0) σ with
  | none => rfl
  | some r => rfl
theorem T2_un {g : Nat → Option (Int32 × MS)} {r r' : Int32 × MS} {N M : Nat} (a : ∀ k, N ≤ k → g k = some r) (b : ∀ k, M ≤ k → g k = some r') : r = r' := by
  have x := a (N + M) (by omega)
  have y := b (N + M) (by omega)
  rw [x] at y
  exact Option.some.inj y
section BKN
variable {T : Nat → Nat → Int32} {FN : Nat → Nat → Prop} {S : Nat → Nat → Nat → Nat → Prop} {σ σ1 σ2 : MS} {C K : Nat → Int32} {e0 z0 x66 x68 : Int32} {sd : Int64} {m : Nat}
/-- from any two states of the program m statements come out alike -/
def Pmb (T : Nat → Nat → Int32) (FN : Nat → Nat → Prop) (S : Nat → Nat → Nat → Nat → Prop) (R : MS → Prop) (m : Nat) : Prop := ∀ σ1 σ2, R σ1 → R σ2 → T2 (fun k => rsB m k σ1) (fun k => rsB m k σ2) (fun r1 r2 => r1.2.1 103 = nI m ∧ r2.2.1 103 = nI m ∧ (IVs T FN S r1.2 r2.2 ∨ IVz T FN r1.2 r2.2) ∧ R r1.2)
/-- a run that has ended by an error -/
def IVd (σ : MS) : Prop := UT σ ∧ σ.1 102 = 1 ∧ ∃ a, σ.1 95 = nI a ∧ a ≤ 1000000
theorem IVd_of (h : IVz T FN σ1 σ2) : IVd σ1 := by
  obtain ⟨_, _, _, _, _, _, _, _, _, _, _, _, z⟩ := h.2.2.2.2.1
  exact ⟨h.1, h.2.2.2.2.2.2.1, z⟩
/-- where a run stands: m statements behind its beginning, alike to what m statements give from any state of the program -/
def Cur (T : Nat → Nat → Int32) (FN : Nat → Nat → Prop) (S : Nat → Nat → Nat → Nat → Prop) (R : MS → Prop) (m : Nat) (σ : MS) : Prop := σ.1 103 = nI m ∧ ∀ σ', R σ' → ∃ r N, (∀ k, N ≤ k → rsB m k σ' = some r) ∧ r.2.1 103 = nI m ∧ (IVs T FN S σ r.2 ∨ IVd σ)
theorem IVs_102 (h : IVs T FN S σ1 σ2) : σ2.1 102 = σ1.1 102 := by
  obtain ⟨_, _, _, _, _, _, _, _, _, _, _, _, hR⟩ := h.1.1
  have := hR.2.2.1 102 (by unfold AlS; omega)
  rw [zB_s (by omega), zB_s (by omega)] at this
  exact this.symm
theorem RIc_rs {ρ : MS} (h : Rs1 σ ρ) (q : RIc T FN C K e0 z0 x66 x68 sd σ) : RIc T FN C K e0 z0 x66 x68 sd ρ := by
  obtain ⟨⟨g, l, B, hh, X, m1⟩, q2, q3, q4, q5, q6, q7, q8, q9, q10⟩ := q
  have hb := Bz_rs1 h q2
  have hm := MI_rs1 h m1
  obtain ⟨h1, h2, h3, h4, h5, h6, h7, h8, h9⟩ := h
  refine ⟨⟨g, l, B, hh, X, hm⟩, hb, fun i hi => ?_, ⟨q4.1, (h7 2 (by decide)).trans q4.2⟩, trivial, (h6 110 (by omega)).trans q6, fun z => ?_, (h6 66 (by omega)).trans q8, (h6 68 (by omega)).trans q9, (h1.2 113 (by decide)).trans q10⟩
  · rw [h7 33 (by decide)]; exact q3 i hi
  · rw [h9, q6, if_pos z]; exact q7 z
theorem Pmb_0 {ns : Nat} (h21 : T 21 0 = nI ns) (hns : ns ≤ 60) (hS : e0 = -1 ∨ ∃ v n, e0 = nI n ∧ S 0 0 v n) : Pmb T FN S (RIc T FN C K e0 z0 x66 x68 sd) 0 := fun σ1 σ2 q1 q2 => T2_ob (E_reset h21 hns hS q1 q2) (fun r1 r2 hr => T2_some ⟨hr.2.1, hr.2.2.1, Or.inl hr.1, RIc_rs hr.2.2.2.1 q1⟩)
/-- m statements from a state: where a run stands -/
theorem Cur_of {R : MS → Prop} (hP : Pmb T FN S R m) (hR : R σ) : Tm (fun k => rsB m k σ) (fun r => Cur T FN S R m r.2 ∧ R r.2) := by
  obtain ⟨r1, _, N, a, _, h1, _, _, h4⟩ := hP σ σ hR hR
  refine ⟨r1, N, a, ⟨h1, fun σ' hR' => ?_⟩, h4⟩
  obtain ⟨s1, s2, N', b1, b2, g1, g2, g3, g4⟩ := hP σ σ' hR hR'
  have e : r1 = s1 := T2_un a b1
  rw [e]
  exact ⟨s2, N', b2, g2, g3.imp id IVd_of⟩
/-- one statement more -/
theorem Cur_step {R : MS → Prop} (hW : SWf T FN S) (hK : SWk T FN S) (hKB : 9 + KBn T ≤ 17000) (hm : m < 2147483000) (hP : Pmb T FN S R m) (hC : Cur T FN S R m σ) (hR : R σ) (hB : ∀ r r', R r → IV0 T FN S r r' → CTn T S r → Tm (fun k => x_begin k 0 (upd (fun _ => 0) 1 (r.2.2 30 0)) r) (fun s => R s.2)) (h102 : σ.1 102 = 0) : Tm (fun k => x_begin k 0 (upd (fun _ => 0) 1 (σ.2.2 30 0)) σ) (fun s => Cur T FN S R (m + 1) s.2) ∧ Pmb T FN S R (m + 1) := by
  -- alike, at a statement
  have at1 : ∀ σ', R σ' → ∃ r N, (∀ k, N ≤ k → rsB m k σ' = some r) ∧ r.2.1 103 = nI m ∧ IVs T FN S σ r.2 ∧ CTn T S σ ∧ r.2.1 102 = 0 := fun σ' hR' => by
    obtain ⟨r, N, a, b, c⟩ := hC.2 σ' hR'
    rcases c with c | c
    · refine ⟨r, N, a, b, c, ?_, (IVs_102 c).trans h102⟩
      rcases c.2 with z | z
      · exact z
      · rw [h102] at z; exact absurd z (by decide)
    · have := c.2.1
      rw [h102] at this; exact absurd this (by decide)
  have sc : nI m + 1 = nI (m + 1) := n_add1 m
  have stp : ∀ σ', R σ' → T2 (fun k => x_begin k 0 (upd (fun _ => 0) 1 (σ.2.2 30 0)) σ) (fun k => rsB (m + 1) k σ') (fun s1 s2 => s1.2.1 103 = nI (m + 1) ∧ s2.2.1 103 = nI (m + 1) ∧ (IVs T FN S s1.2 s2.2 ∨ IVz T FN s1.2 s2.2)) := fun σ' hR' => by
    obtain ⟨r, N, a, b, c, d, _⟩ := at1 σ' hR'
    obtain ⟨s1, s2, N', b1, b2, g1, g2⟩ := E_bgn (L1 := upd (fun _ => 0) 1 (σ.2.2 30 0)) (L2 := upd (fun _ => 0) 1 (r.2.2.2 30 0)) hW hK hKB c.1 d rfl rfl
    refine ⟨s1, s2, N + N', fun k hk => b1 k (by omega), fun k hk => ?_, ?_, ?_, g2⟩
    · show rsB (m + 1) k σ' = _
      rw [rsB_s, a k (by omega)]
      exact b2 k (by omega)
    · rw [g1.1, hC.1, sc]
    · rw [g1.2.1, hC.1, sc]
  constructor
  · obtain ⟨s1, _, N, a, _, h1, _, _⟩ := stp σ hR
    refine ⟨s1, N, a, h1, fun σ' hR' => ?_⟩
    obtain ⟨t1, t2, N', b1, b2, g1, g2, g3⟩ := stp σ' hR'
    have e : s1 = t1 := T2_un a b1
    rw [e]
    exact ⟨t2, N', b2, g2, g3.imp id IVd_of⟩
  · intro σ1 σ2 q1 q2
    obtain ⟨r, N, a, b, c, d, z⟩ := at1 σ1 q1
    obtain ⟨r1, r2, M, b1, b2, g1, g2, g3, g4⟩ := hP σ1 σ2 q1 q2
    have e : r = r1 := T2_un a b1
    subst e
    have key : IVs T FN S r.2 r2.2 ∧ CTn T S r.2 := by
      rcases g3 with g | g
      · refine ⟨g, ?_⟩
        rcases g.2 with y | y
        · exact y
        · rw [z] at y; exact absurd y (by decide)
      · have := g.2.2.2.2.2.2.1
        rw [z] at this; exact absurd this (by decide)
    obtain ⟨s1, s2, N', f1, f2, p1, p2⟩ := E_bgn (L1 := upd (fun _ => 0) 1 (r.2.2.2 30 0)) (L2 := upd (fun _ => 0) 1 (r2.2.2.2 30 0)) hW hK hKB key.1.1 key.2 rfl rfl
    obtain ⟨u, N2, u1, u2⟩ := hB r.2 r2.2 g4 key.1.1 key.2
    have eu : u = s1 := T2_un u1 f1
    refine ⟨s1, s2, M + N', fun k hk => ?_, fun k hk => ?_, ?_, ?_, p2, eu ▸ u2⟩
    · show rsB (m + 1) k σ1 = _
      rw [rsB_s, show rsB m k σ1 = some r from b1 k (by omega)]
      exact f1 k (by omega)
    · show rsB (m + 1) k σ2 = _
      rw [rsB_s, show rsB m k σ2 = some r2 from b2 k (by omega)]
      exact f2 k (by omega)
    · rw [p1.1, g1, sc]
    · rw [p1.2.1, g1, sc]
end BKN
end JnS273
section JnS274
/-! Going back (reference): the call itself. -/
section BCK
variable {T : Nat → Nat → Int32} {FN : Nat → Nat → Prop} {S : Nat → Nat → Nat → Nat → Prop} {σ ρ : MS} {m m' q : Nat} {R : MS → Prop}
/-- statements are begun until there are as many as asked -/
theorem s_bkL (hm : m' < 2147483000) (hP : ∀ j, j ≤ m' → ∃ r N, (∀ k, N ≤ k → rsB j k σ = some r) ∧ r.2.1 103 = nI j) {N : Nat → Int32} (n2 : N 2 = nI m') : ∀ (d j : Nat) (r : Int32 × MS) (M : Nat), d + j = m' → (∀ k, M ≤ k → rsB j k σ = some r) → r.2.1 103 = nI j → Tm (fun k => x_back k 6 N r.2) (fun s => s.1 = nI m' ∧ ∃ x M', (∀ k, M' ≤ k → rsB m' k σ = some x) ∧ s.2 = x.2) := by
  intro d
  induction d with
  | zero =>
    intro j r M hd h h3
    have e : j = m' := by omega
    subst e
    refine Tm_suc (fun k => by rw [x_back]) ?_
    rw [n2, h3]
    refine Tm_ite (fun _ => ?_) (fun z => absurd (Int32.le_refl _) z)
    refine Tm_suc (fun k => by rw [x_back]) ?_
    exact Tm_some ⟨n2, r, M, h, rfl⟩
  | succ d ih =>
    intro j r M hd h h3
    obtain ⟨r', M', h', h3'⟩ := hP (j + 1) (by omega)
    refine Tm_suc (fun k => by rw [x_back]) ?_
    rw [n2, h3]
    refine Tm_ite (fun z => ?_) (fun _ => ?_)
    · have := (n_le (by omega) (by omega)).mp z
      omega
    refine Tm_chk (by decide) ?_
    rw [show (0 : Int32).toNatClampNeg = 0 from by decide]
    have tb : Tm (fun k => x_begin k 0 (upd (fun _ => 0) 1 (r.2.2.2 30 0)) r.2) (fun s => s = r') := ⟨r', M + M', fun k hk => by
      have x := h' k (by omega)
      rw [rsB_s, h k (by omega)] at x
      exact x, rfl⟩
    refine Tm_ob tb (fun s hs => ?_)
    rw [hs]
    exact ih (j + 1) r' M' (by omega) h' h3'
/-- back by q -/
theorem s_back (hm : m < 2147483000) (hP : ∀ j, j ≤ m → Pmb T FN S R j) (hR : R (mSc σ 2 0)) (h103 : σ.1 103 = nI m) (h112 : ¬ σ.1 112 = 0) (hq : q ≤ m) (hrs : Tm (fun k => x_reset k 0 (fun _ => 0) (mSc σ 2 0)) (fun r => r.2.1 103 = nI 0)) {L : Nat → Int32} (d1 : L 1 = nI q) : Tm (fun k => x_back k 0 L σ) (fun r => r.1 = nI (m - q) ∧ Cur T FN S R (m - q) r.2 ∧ R r.2) := by
  refine Tm_suc (fun k => by rw [x_back]) ?_
  refine Tm_ite (fun z => absurd z h112) (fun _ => ?_)
  refine Tm_suc (fun k => by rw [x_back]) ?_
  rw [d1, h103]
  refine Tm_ite (fun z => ?_) (fun _ => ?_)
  · have := (show nI q < nI 0 ↔ q < 0 from n_lt (by omega) (by omega)).mp z
    omega
  refine Tm_ite (fun _ => ?_) (fun z => absurd ((n_le (by omega) (by omega)).mpr hq) z)
  refine Tm_suc (fun k => by rw [x_back]) ?_
  refine Tm_suc (fun k => by rw [x_back]) ?_
  refine Tm_ob (s_good _ _) (fun r hr => ?_)
  rw [hr]
  refine Tm_ite (fun z => absurd (show (1 : Int32) = 0 from z) (by decide)) (fun _ => ?_)
  show Tm (fun k => x_back k 5 (upd L 100 0) (mSc σ 2 0)) _
  have all : ∀ j, j ≤ m - q → ∃ r N, (∀ k, N ≤ k → rsB j k (mSc σ 2 0) = some r) ∧ r.2.1 103 = nI j := fun j hj => by
    obtain ⟨r1, _, N, a, _, h1, _, _⟩ := hP j (by omega) _ _ hR hR
    exact ⟨r1, N, a, h1⟩
  have cu := Cur_of (hP (m - q) (by omega)) hR
  obtain ⟨s, N0, b0, b1⟩ := hrs
  refine Tm_suc (fun k => by rw [x_back]) ?_
  refine Tm_ob (P := fun y => y = s) ⟨s, N0, b0, rfl⟩ (fun y hy => ?_)
  rw [hy]
  have e2 : (mSc σ 2 0).1 103 - (upd L 100 0) 1 = nI (m - q) := by
    show σ.1 103 - L 1 = _
    rw [h103, d1, n_sub (by omega) (by omega)]
  refine Tm_mono (s_bkL (σ := mSc σ 2 0) (by omega) all (N := upd (upd L 100 0) 2 ((mSc σ 2 0).1 103 - (upd L 100 0) 1)) e2 (m - q) 0 (0, s.2) N0 (by omega) (fun k hk => ?_) b1) (fun r hr => ?_)
  · unfold rsB
    have := b0 k hk
    rw [show x_reset k 0 (fun _ => 0) (mSc σ 2 0) = some s from this]
    rfl
  · obtain ⟨g1, x, M', g2, g3⟩ := hr
    obtain ⟨y, M2, c1, c2⟩ := cu
    have e : x = y := T2_un g2 c1
    refine ⟨g1, ?_⟩
    rw [g3, e]; exact c2
end BCK
end JnS274
