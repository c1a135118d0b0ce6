/-! The grammar: it goes on, and lays no more nodes and names than there are bytes. -/
theorem gb_any {x : RG} {k : RT → RG} {y : Option RT} (h : gb x k = some y) : (x = some none ∧ y = none) ∨ ∃ s, x = some (some s) ∧ k s = some y := by
  cases x with
  | none => exact absurd h (by intro h; cases h)
  | some z => cases z with
    | none => exact Or.inl ⟨rfl, (Option.some.inj h).symm⟩
    | some s => exact Or.inr ⟨s, rfl, h⟩
theorem gT_any {T : Nat → Int32} {n q : Nat} {k : Nat → RG} {y : Option RT} (h : gT T n q k = some y) : (tkK T n (tkN T n q) = 0 ∧ y = none) ∨ (¬ tkK T n (tkN T n q) = 0 ∧ k (tkN T n q) = some y) := by
  unfold gT at h
  by_cases c : tkK T n (tkN T n q) = 0
  · rw [if_pos c] at h; exact Or.inl ⟨c, (Option.some.inj h).symm⟩
  · rw [if_neg c] at h; exact Or.inr ⟨c, h⟩
theorem gW_any {T : Nat → Int32} {n t q : Nat} {k : Nat → RG} {y : Option RT} (h : gW T n t q k = some y) : (¬ (tkK T n q = t ∧ ¬ tkK T n (tkN T n q) = 0) ∧ y = none) ∨ ((tkK T n q = t ∧ ¬ tkK T n (tkN T n q) = 0) ∧ k (tkN T n q) = some y) := by
  unfold gW at h
  by_cases c : tkK T n q = t
  · rw [if_pos c] at h
    rcases gT_any h with ⟨a, b⟩ | ⟨a, b⟩
    · exact Or.inl ⟨fun z => z.2 a, b⟩
    · exact Or.inr ⟨⟨c, a⟩, b⟩
  · rw [if_neg c] at h; exact Or.inl ⟨fun z => c z.1, (Option.some.inj h).symm⟩
theorem gO_any {o : Nat} {k : RG} {y : Option RT} (h : gO o k = some y) : (o = 20 ∧ y = none) ∨ (¬ o = 20 ∧ k = some y) := by
  unfold gO at h
  by_cases c : o = 20
  · rw [if_pos c] at h; exact Or.inl ⟨c, (Option.some.inj h).symm⟩
  · rw [if_neg c] at h; exact Or.inr ⟨c, h⟩
theorem gb_s {x : RG} {k : RT → RG} {r : RT} (h : gb x k = some (some r)) : ∃ s, x = some (some s) ∧ k s = some (some r) := by
  rcases gb_any h with ⟨_, h2⟩ | h
  · cases h2
  · exact h
theorem gT_s {T : Nat → Int32} {n q : Nat} {k : Nat → RG} {r : RT} (h : gT T n q k = some (some r)) : ¬ tkK T n (tkN T n q) = 0 ∧ k (tkN T n q) = some (some r) := by
  rcases gT_any h with ⟨_, h2⟩ | h
  · cases h2
  · exact h
theorem gW_s {T : Nat → Int32} {n t q : Nat} {k : Nat → RG} {r : RT} (h : gW T n t q k = some (some r)) : tkK T n q = t ∧ ¬ tkK T n (tkN T n q) = 0 ∧ k (tkN T n q) = some (some r) := by
  rcases gW_any h with ⟨_, h2⟩ | ⟨⟨a, b⟩, h⟩
  · cases h2
  · exact ⟨a, b, h⟩
theorem gO_s {o : Nat} {k : RG} {r : RT} (h : gO o k = some (some r)) : ¬ o = 20 ∧ k = some (some r) := by
  rcases gO_any h with ⟨_, h2⟩ | h
  · cases h2
  · exact h
/-- a name that is told -/
theorem gN_any {T : Nat → Int32} {n : Nat} {E : En} {c g q v : Nat} {b : BT} {k : Nat → Nat → Nat → BT → Nm → RG} {y : Option RT} (h : gN T n E c g q v b k = some y) :
    (¬ (tkK T n q = 26 ∧ ((E.2.2.1.take (E.2.2.1.length - c)).find? (fun x => decide (x.1 = tkS T n q))).isSome = false ∧ ¬ v = 60 ∧ ¬ tkK T n (tkN T n q) = 0) ∧ y = none) ∨ ((tkK T n q = 26 ∧ ((E.2.2.1.take (E.2.2.1.length - c)).find? (fun x => decide (x.1 = tkS T n q))).isSome = false ∧ ¬ v = 60 ∧ ¬ tkK T n (tkN T n q) = 0) ∧ k (tkN T n q) (v + 1) b.1 (bNode (bKeep (bSlot b (60 * E.2.2.2.1 + v) (nI g)) T q (tkE T n q - q)) 31 (if E.2.2.2.1 = 0 then 0 else 1) (nI v) 0) (tkS T n q, b.2.1, v) = some y) := by
  unfold gN at h
  by_cases c1 : tkK T n q = 26
  · rw [if_pos c1] at h
    by_cases c2 : ((E.2.2.1.take (E.2.2.1.length - c)).find? (fun x => decide (x.1 = tkS T n q))).isSome = true
    · rw [if_pos c2] at h
      exact Or.inl ⟨fun z => by rw [c2] at z; exact absurd z.2.1 (by decide), (Option.some.inj h).symm⟩
    · rw [if_neg c2] at h
      have c2 := eq_false_of_ne_true c2
      by_cases c3 : v = 60
      · rw [if_pos c3] at h
        exact Or.inl ⟨fun z => z.2.2.1 c3, (Option.some.inj h).symm⟩
      · rw [if_neg c3] at h
        rcases gT_any h with ⟨a, d⟩ | ⟨a, d⟩
        · exact Or.inl ⟨fun z => z.2.2.2 a, d⟩
        · exact Or.inr ⟨⟨c1, c2, c3, a⟩, d⟩
  · rw [if_neg c1] at h
    exact Or.inl ⟨fun z => c1 z.1, (Option.some.inj h).symm⟩
theorem gN_s {T : Nat → Int32} {n : Nat} {E : En} {c g q v : Nat} {b : BT} {k : Nat → Nat → Nat → BT → Nm → RG} {r : RT} (h : gN T n E c g q v b k = some (some r)) : tkK T n q = 26 ∧ ¬ v = 60 ∧ k (tkN T n q) (v + 1) b.1 (bNode (bKeep (bSlot b (60 * E.2.2.2.1 + v) (nI g)) T q (tkE T n q - q)) 31 (if E.2.2.2.1 = 0 then 0 else 1) (nI v) 0) (tkS T n q, b.2.1, v) = some (some r) := by
  rcases gN_any h with ⟨_, h2⟩ | ⟨⟨a, _, c, _⟩, h⟩
  · cases h2
  · exact ⟨a, c, h⟩
section BSZ
variable {b : BT} {k x y z u : Int32} {l j i m f : Nat} {T : Nat → Int32}
theorem bNode_1 : (bNode b k x y z).1 = b.1 + 1 := rfl
theorem bNode_p : (bNode b k x y z).2.1 = b.2.1 := rfl
theorem bSet_1 : (bSet b j l x).1 = b.1 := rfl
theorem bSet_p : (bSet b j l x).2.1 = b.2.1 := rfl
theorem bOver_1 : (bOver b k x l z).1 = b.1 + 1 := rfl
theorem bOver_p : (bOver b k x l z).2.1 = b.2.1 := rfl
theorem bWrap_1 : (bWrap b k x y z u).1 = b.1 + 1 := rfl
theorem bWrap_p : (bWrap b k x y z u).2.1 = b.2.1 := rfl
theorem bKeep_1 : (bKeep b T f m).1 = b.1 := rfl
theorem bKeep_p : (bKeep b T f m).2.1 = b.2.1 + m := rfl
theorem bSlot_1 : (bSlot b i x).1 = b.1 := rfl
theorem bSlot_p : (bSlot b i x).2.1 = b.2.1 := rfl
end BSZ
def Mo (n : Nat) (b : BT) (q v : Nat) (r : RT) : Prop := q ≤ r.1 ∧ r.1 ≤ n ∧ v ≤ r.2.1 ∧ r.2.1 ≤ max v 60 ∧ b.1 ≤ r.2.2.2.2.1.1 ∧ r.2.2.2.2.1.1 + q ≤ b.1 + r.1 ∧ b.2.1 ≤ r.2.2.2.2.1.2.1 ∧ r.2.2.2.2.1.2.1 + q ≤ b.2.1 + r.1
def Mo1 (n : Nat) (b : BT) (q v : Nat) (r : RT) : Prop := q ≤ r.1 ∧ r.1 ≤ n ∧ v ≤ r.2.1 ∧ r.2.1 ≤ max v 60 ∧ b.1 ≤ r.2.2.2.2.1.1 ∧ r.2.2.2.2.1.1 + q ≤ b.1 + r.1 + 1 ∧ b.2.1 ≤ r.2.2.2.2.1.2.1 ∧ r.2.2.2.2.1.2.1 + q ≤ b.2.1 + r.1
def MoN (nt n : Nat) (b : BT) (q v : Nat) (r : RT) : Prop := if nt = 15 then Mo1 n b q v r else Mo n b q v r
abbrev isLp (nt : Nat) : Prop := nt = 1 ∨ nt = 3 ∨ nt = 7 ∨ nt = 9 ∨ nt = 12 ∨ nt = 16
/-- what a loop has when it is begun: its node, its list -/
def Nd0 (nt M : Nat) (b : BT) (i e c : Nat) : Prop := if isLp nt then M ≤ e ∧ e < b.1 else if nt = 14 then c = 0 ∨ (M ≤ i ∧ i < b.1 ∧ M ≤ e ∧ e < b.1) else if nt = 15 then M ≤ i ∧ i < b.1 ∧ M ≤ e ∧ e < b.1 else if nt = 17 then i = 0 ∨ (M ≤ i ∧ i < b.1 ∧ M ≤ e ∧ e < b.1) else True
def Nd1 (nt M : Nat) (r : RT) : Prop := if nt = 14 then (r.2.2.1 = 0 ∧ r.2.2.2.1 = 0) ∨ (M ≤ r.2.2.2.1 ∧ r.2.2.2.1 < r.2.2.2.2.1.1) else if nt = 18 then True else M ≤ r.2.2.2.1 ∧ r.2.2.2.1 < r.2.2.2.2.1.1
