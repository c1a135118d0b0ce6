/-! Going back (reference): the first m statements of a program come out alike from whatever state it is set back. -/
/-- m statements are begun -/
def itB : Nat → Nat → MS → Option (Int32 × MS)
  | 0, _, ρ => some (0, ρ)
  | m + 1, k, ρ => ob (itB m k ρ) (fun r => x_begin k 0 (upd (fun _ => 0) 1 (r.2.2.2 30 0)) r.2)
/-- set back, then m statements -/
def rsB (m k : Nat) (σ : MS) : Option (Int32 × MS) := ob (x_reset k 0 (fun _ => 0) σ) (fun r => itB m k r.2)
theorem rsB_s (m k : Nat) (σ : MS) : rsB (m + 1) k σ = ob (rsB m k σ) (fun r => x_begin k 0 (upd (fun _ => 0) 1 (r.2.2.2 30 0)) r.2) := by
  unfold rsB
  cases x_reset k 0 (fun _ => 0) σ with
  | none => rfl
  | some r => rfl
theorem T2_un {g : Nat → Option (Int32 × MS)} {r r' : Int32 × MS} {N M : Nat} (a : ∀ k, N ≤ k → g k = some r) (b : ∀ k, M ≤ k → g k = some r') : r = r' := by
  have x := a (N + M) (by omega)
  have y := b (N + M) (by omega)
  rw [x] at y
  exact Option.some.inj y
section BKN
variable {T : Nat → Nat → Int32} {FN : Nat → Nat → Prop} {S : Nat → Nat → Nat → Nat → Prop} {σ σ1 σ2 : MS} {C K : Nat → Int32} {e0 z0 x66 x68 : Int32} {sd : Int64} {m : Nat}
/-- from any two states of the program m statements come out alike -/
def Pmb (T : Nat → Nat → Int32) (FN : Nat → Nat → Prop) (S : Nat → Nat → Nat → Nat → Prop) (R : MS → Prop) (m : Nat) : Prop := ∀ σ1 σ2, R σ1 → R σ2 → T2 (fun k => rsB m k σ1) (fun k => rsB m k σ2) (fun r1 r2 => r1.2.1 103 = nI m ∧ r2.2.1 103 = nI m ∧ (IVs T FN S r1.2 r2.2 ∨ IVz T FN r1.2 r2.2) ∧ R r1.2)
/-- a run that has ended by an error -/
def IVd (σ : MS) : Prop := UT σ ∧ σ.1 102 = 1 ∧ ∃ a, σ.1 95 = nI a ∧ a ≤ 1000000
theorem IVd_of (h : IVz T FN σ1 σ2) : IVd σ1 := by
  obtain ⟨_, _, _, _, _, _, _, _, _, _, _, _, z⟩ := h.2.2.2.2.1
  exact ⟨h.1, h.2.2.2.2.2.2.1, z⟩
/-- where a run stands: m statements behind its beginning, alike to what m statements give from any state of the program -/
def Cur (T : Nat → Nat → Int32) (FN : Nat → Nat → Prop) (S : Nat → Nat → Nat → Nat → Prop) (R : MS → Prop) (m : Nat) (σ : MS) : Prop := σ.1 103 = nI m ∧ ∀ σ', R σ' → ∃ r N, (∀ k, N ≤ k → rsB m k σ' = some r) ∧ r.2.1 103 = nI m ∧ (IVs T FN S σ r.2 ∨ IVd σ)
theorem IVs_102 (h : IVs T FN S σ1 σ2) : σ2.1 102 = σ1.1 102 := by
  obtain ⟨_, _, _, _, _, _, _, _, _, _, _, _, hR⟩ := h.1.1
  have := hR.2.2.1 102 (by unfold AlS; omega)
  rw [zB_s (by omega), zB_s (by omega)] at this
  exact this.symm
theorem RIc_rs {ρ : MS} (h : Rs1 σ ρ) (q : RIc T FN C K e0 z0 x66 x68 sd σ) : RIc T FN C K e0 z0 x66 x68 sd ρ := by
  obtain ⟨⟨g, l, B, hh, X, m1⟩, q2, q3, q4, q5, q6, q7, q8, q9, q10⟩ := q
  have hb := Bz_rs1 h q2
  have hm := MI_rs1 h m1
  obtain ⟨h1, h2, h3, h4, h5, h6, h7, h8, h9⟩ := h
  refine ⟨⟨g, l, B, hh, X, hm⟩, hb, fun i hi => ?_, ⟨q4.1, (h7 2 (by decide)).trans q4.2⟩, trivial, (h6 110 (by omega)).trans q6, fun z => ?_, (h6 66 (by omega)).trans q8, (h6 68 (by omega)).trans q9, (h1.2 113 (by decide)).trans q10⟩
  · rw [h7 33 (by decide)]; exact q3 i hi
  · rw [h9, q6, if_pos z]; exact q7 z
theorem Pmb_0 {ns : Nat} (h21 : T 21 0 = nI ns) (hns : ns ≤ 60) (hS : e0 = -1 ∨ ∃ v n, e0 = nI n ∧ S 0 0 v n) : Pmb T FN S (RIc T FN C K e0 z0 x66 x68 sd) 0 := fun σ1 σ2 q1 q2 => T2_ob (E_reset h21 hns hS q1 q2) (fun r1 r2 hr => T2_some ⟨hr.2.1, hr.2.2.1, Or.inl hr.1, RIc_rs hr.2.2.2.1 q1⟩)
/-- m statements from a state: where a run stands -/
theorem Cur_of {R : MS → Prop} (hP : Pmb T FN S R m) (hR : R σ) : Tm (fun k => rsB m k σ) (fun r => Cur T FN S R m r.2 ∧ R r.2) := by
  obtain ⟨r1, _, N, a, _, h1, _, _, h4⟩ := hP σ σ hR hR
  refine ⟨r1, N, a, ⟨h1, fun σ' hR' => ?_⟩, h4⟩
  obtain ⟨s1, s2, N', b1, b2, g1, g2, g3, g4⟩ := hP σ σ' hR hR'
  have e : r1 = s1 := T2_un a b1
  rw [e]
  exact ⟨s2, N', b2, g2, g3.imp id IVd_of⟩
/-- one statement more -/
theorem Cur_step {R : MS → Prop} (hW : SWf T FN S) (hK : SWk T FN S) (hKB : 9 + KBn T ≤ 17000) (hm : m < 2147483000) (hP : Pmb T FN S R m) (hC : Cur T FN S R m σ) (hR : R σ) (hB : ∀ r r', R r → IV0 T FN S r r' → CTn T S r → Tm (fun k => x_begin k 0 (upd (fun _ => 0) 1 (r.2.2 30 0)) r) (fun s => R s.2)) (h102 : σ.1 102 = 0) : Tm (fun k => x_begin k 0 (upd (fun _ => 0) 1 (σ.2.2 30 0)) σ) (fun s => Cur T FN S R (m + 1) s.2) ∧ Pmb T FN S R (m + 1) := by
  -- alike, at a statement
  have at1 : ∀ σ', R σ' → ∃ r N, (∀ k, N ≤ k → rsB m k σ' = some r) ∧ r.2.1 103 = nI m ∧ IVs T FN S σ r.2 ∧ CTn T S σ ∧ r.2.1 102 = 0 := fun σ' hR' => by
    obtain ⟨r, N, a, b, c⟩ := hC.2 σ' hR'
    rcases c with c | c
    · refine ⟨r, N, a, b, c, ?_, (IVs_102 c).trans h102⟩
      rcases c.2 with z | z
      · exact z
      · rw [h102] at z; exact absurd z (by decide)
    · have := c.2.1
      rw [h102] at this; exact absurd this (by decide)
  have sc : nI m + 1 = nI (m + 1) := n_add1 m
  have stp : ∀ σ', R σ' → T2 (fun k => x_begin k 0 (upd (fun _ => 0) 1 (σ.2.2 30 0)) σ) (fun k => rsB (m + 1) k σ') (fun s1 s2 => s1.2.1 103 = nI (m + 1) ∧ s2.2.1 103 = nI (m + 1) ∧ (IVs T FN S s1.2 s2.2 ∨ IVz T FN s1.2 s2.2)) := fun σ' hR' => by
    obtain ⟨r, N, a, b, c, d, _⟩ := at1 σ' hR'
    obtain ⟨s1, s2, N', b1, b2, g1, g2⟩ := E_bgn (L1 := upd (fun _ => 0) 1 (σ.2.2 30 0)) (L2 := upd (fun _ => 0) 1 (r.2.2.2 30 0)) hW hK hKB c.1 d rfl rfl
    refine ⟨s1, s2, N + N', fun k hk => b1 k (by omega), fun k hk => ?_, ?_, ?_, g2⟩
    · show rsB (m + 1) k σ' = _
      rw [rsB_s, a k (by omega)]
      exact b2 k (by omega)
    · rw [g1.1, hC.1, sc]
    · rw [g1.2.1, hC.1, sc]
  constructor
  · obtain ⟨s1, _, N, a, _, h1, _, _⟩ := stp σ hR
    refine ⟨s1, N, a, h1, fun σ' hR' => ?_⟩
    obtain ⟨t1, t2, N', b1, b2, g1, g2, g3⟩ := stp σ' hR'
    have e : s1 = t1 := T2_un a b1
    rw [e]
    exact ⟨t2, N', b2, g2, g3.imp id IVd_of⟩
  · intro σ1 σ2 q1 q2
    obtain ⟨r, N, a, b, c, d, z⟩ := at1 σ1 q1
    obtain ⟨r1, r2, M, b1, b2, g1, g2, g3, g4⟩ := hP σ1 σ2 q1 q2
    have e : r = r1 := T2_un a b1
    subst e
    have key : IVs T FN S r.2 r2.2 ∧ CTn T S r.2 := by
      rcases g3 with g | g
      · refine ⟨g, ?_⟩
        rcases g.2 with y | y
        · exact y
        · rw [z] at y; exact absurd y (by decide)
      · have := g.2.2.2.2.2.2.1
        rw [z] at this; exact absurd this (by decide)
    obtain ⟨s1, s2, N', f1, f2, p1, p2⟩ := E_bgn (L1 := upd (fun _ => 0) 1 (r.2.2.2 30 0)) (L2 := upd (fun _ => 0) 1 (r2.2.2.2 30 0)) hW hK hKB key.1.1 key.2 rfl rfl
    obtain ⟨u, N2, u1, u2⟩ := hB r.2 r2.2 g4 key.1.1 key.2
    have eu : u = s1 := T2_un u1 f1
    refine ⟨s1, s2, M + N', fun k hk => ?_, fun k hk => ?_, ?_, ?_, p2, eu ▸ u2⟩
    · show rsB (m + 1) k σ1 = _
      rw [rsB_s, show rsB m k σ1 = some r from b1 k (by omega)]
      exact f1 k (by omega)
    · show rsB (m + 1) k σ2 = _
      rw [rsB_s, show rsB m k σ2 = some r2 from b2 k (by omega)]
      exact f2 k (by omega)
    · rw [p1.1, g1, sc]
    · rw [p1.2.1, g1, sc]
end BKN
