/-! An exp that is a target: the grammar tells it, and it is laid as a target is. -/
/-- no target -/
def Iz (x : RG) : Prop := ∀ r, x = some (some r) → r.2.2.1 = 0
section IZS
variable {T : Nat → Int32} {n : Nat} {x y : RG}
theorem Iz_n : Iz (some none) := fun r h => by cases h
theorem Iz_ss {q v e : Nat} {b : BT} {nm : List Nm} : Iz (some (some (q, v, 0, e, b, nm))) := fun r h => by cases h; rfl
theorem Iz_gb {k : RT → RG} (h : ∀ r, Iz (k r)) : Iz (gb x k) := fun r hr => by
  obtain ⟨s, _, h2⟩ := gb_s hr
  exact h s r h2
theorem Iz_ite {c : Prop} [Decidable c] (h : c → Iz x) (h' : ¬ c → Iz y) : Iz (if c then x else y) := fun r hr => by
  by_cases z : c
  · rw [if_pos z] at hr; exact h z r hr
  · rw [if_neg z] at hr; exact h' z r hr
theorem Iz_gT {q : Nat} {k : Nat → RG} (h : ∀ q1, Iz (k q1)) : Iz (gT T n q k) := Iz_ite (fun _ => Iz_n) (fun _ => h _)
theorem Iz_gW {t q : Nat} {k : Nat → RG} (h : ∀ q1, Iz (k q1)) : Iz (gW T n t q k) := Iz_ite (fun _ => Iz_gT h) (fun _ => Iz_n)
theorem Iz_gO {o : Nat} (h : Iz x) : Iz (gO o x) := Iz_ite (fun _ => Iz_n) (fun _ => h)
variable {E : En} {o q v i e c g f : Nat} {b : BT} {r : RT}
/-- a primary that is a target is a variable -/
theorem G13_i (hG : G T n (f + 1) 13 E o q v i e c g b = some (some r)) : r.2.2.1 = 0 ∨ ((tkK T n q = 26 ∧ (fd E (tkS T n q)).1 = 1) ∧ ¬ tkK T n (tkN T n q) = 0 ∧ r = (tkN T n q, v, 1, b.1, bNode b 7 (fd E (tkS T n q)).2.2 (nI (fd E (tkS T n q)).2.1) 0, [])) := by
  rw [G_13] at hG
  by_cases k : tkK T n q = 26 ∧ (fd E (tkS T n q)).1 = 1
  · rw [if_neg (by omega), if_neg (by omega), if_pos k.1] at hG
    obtain ⟨t, hG⟩ := gT_s hG
    rw [if_pos k.2] at hG
    cases hG
    exact Or.inr ⟨k, t, rfl⟩
  · refine Or.inl ?_
    revert r
    show Iz _
    repeat' (first
      | with_reducible exact Iz_n
      | with_reducible exact Iz_ss
      | with_reducible refine Iz_gT (fun q1 => ?_)
      | with_reducible refine Iz_gW (fun q1 => ?_)
      | with_reducible refine Iz_gO ?_
      | with_reducible refine Iz_ite (fun c => ?_) (fun c => ?_)
      | with_reducible refine Iz_gb (fun r => ?_)
      | exact absurd (And.intro (by assumption) (by assumption)) k)
/-- parts of what is no target -/
theorem G12_0 : ∀ (f o q v e : Nat) (b : BT) (r : RT), G T n f 12 E o q v 0 e 0 0 b = some (some r) → r.2.2.1 = 0 := by
  intro f
  induction f with
  | zero => intro o q v e b r hG; exact absurd hG (by unfold G; intro h; cases h)
  | succ f ih =>
    intro o q v e b r hG
    rw [G_12] at hG
    have ih' : ∀ (o q v e : Nat) (b : BT), Iz (G T n f 12 E o q v (if (0 : Nat) = 0 then 0 else 2) e 0 0 b) := fun o q v e b r h => ih o q v e b r h
    revert r
    show Iz _
    repeat' (first
      | with_reducible exact Iz_n
      | with_reducible exact Iz_ss
      | with_reducible exact ih' _ _ _ _ _
      | with_reducible refine Iz_gT (fun q1 => ?_)
      | with_reducible refine Iz_gW (fun q1 => ?_)
      | with_reducible refine Iz_gO ?_
      | with_reducible refine Iz_ite (fun c => ?_) (fun c => ?_)
      | with_reducible refine Iz_gb (fun r => ?_))
/-- operators behind an operand: a target alone -/
theorem Gop_i {nt : Nat} (hnt : nt = 1 ∨ nt = 3 ∨ nt = 7 ∨ nt = 9) : ∀ (f q v i e : Nat) (b : BT) (r : RT), G T n f nt E o q v i e 0 0 b = some (some r) → r.2.2.1 = 0 ∨ r = (q, v, i, e, b, []) := by
  intro f
  induction f with
  | zero => intro q v i e b r hG; exact absurd hG (by unfold G; intro h; cases h)
  | succ f ih =>
    intro q v i e b r hG
    have ih' : ∀ (q v e : Nat) (b : BT), Iz (G T n f nt E o q v 0 e 0 0 b) := fun q v e b r h => by
      rcases ih q v 0 e b r h with z | z
      · exact z
      · rw [z]
    have key : ∀ {c : Prop} [Decidable c] {x : RG}, Iz x → (if c then x else some (some (q, v, i, e, b, []))) = some (some r) → r.2.2.1 = 0 ∨ r = (q, v, i, e, b, []) := fun {c} _ {x} hx h => by
      by_cases z : c
      · rw [if_pos z] at h; exact Or.inl (hx r h)
      · rw [if_neg z] at h; cases h; exact Or.inr rfl
    rcases hnt with rfl | rfl | rfl | rfl
    · rw [G_1] at hG; exact key (Iz_gT (fun q1 => Iz_gb (fun r => ih' _ _ _ _))) hG
    · rw [G_3] at hG; exact key (Iz_gT (fun q1 => Iz_gb (fun r => ih' _ _ _ _))) hG
    · rw [G_7] at hG; exact key (Iz_gT (fun q1 => Iz_gb (fun r => ih' _ _ _ _))) hG
    · rw [G_9] at hG; exact key (Iz_gT (fun q1 => Iz_gb (fun r => ih' _ _ _ _))) hG
/-- a target all the same -/
def Tx (T : Nat → Int32) (n : Nat) (E : En) (o q v : Nat) (b : BT) (r : RT) : Prop := r.2.2.1 = 0 ∨ ∃ f r', gTg T n f E o q v b = some (some r') ∧ r'.1 = r.1 ∧ r'.2.1 = r.2.1 ∧ r'.2.2.1 = r.2.2.1 ∧ r'.2.2.2.1 = r.2.2.2.1 ∧ r'.2.2.2.2.1 = r.2.2.2.2.1
theorem Tx_c {s : RT} (h : Tx T n E o q v b s) (h1 : r.1 = s.1) (h2 : r.2.1 = s.2.1) (h3 : r.2.2.1 = s.2.2.1) (h4 : r.2.2.2.1 = s.2.2.2.1) (h5 : r.2.2.2.2.1 = s.2.2.2.2.1) : Tx T n E o q v b r := by
  rcases h with h | ⟨f, r', a0, a1, a2, a3, a4, a5⟩
  · exact Or.inl (h3.trans h)
  · exact Or.inr ⟨f, r', a0, a1.trans h1.symm, a2.trans h2.symm, a3.trans h3.symm, a4.trans h4.symm, a5.trans h5.symm⟩
theorem g_inf : ∀ (f nt q v : Nat) (b : BT) (r : RT), nt = 0 ∨ nt = 2 ∨ nt = 4 ∨ nt = 5 ∨ nt = 6 ∨ nt = 8 ∨ nt = 10 ∨ nt = 11 → G T n f nt E o q v 0 0 0 0 b = some (some r) → Tx T n E o q v b r := by
  intro f
  induction f with
  | zero => intro nt q v b r _ hG; exact absurd hG (by unfold G; intro h; cases h)
  | succ f ih =>
    intro nt q v b r hnt hG
    have tl : ∀ {nt' : Nat} {s : RT}, (nt' = 1 ∨ nt' = 3 ∨ nt' = 7 ∨ nt' = 9) → Tx T n E o q v b s → G T n f nt' E o s.1 s.2.1 s.2.2.1 s.2.2.2.1 0 0 s.2.2.2.2.1 = some (some r) → Tx T n E o q v b r := fun {nt'} {s} h1 h2 h3 => by
      rcases Gop_i h1 f _ _ _ _ _ _ h3 with z | z
      · exact Or.inl z
      · subst z; exact Tx_c h2 rfl rfl rfl rfl rfl
    rcases hnt with rfl | rfl | rfl | rfl | rfl | rfl | rfl | rfl
    · rw [G_0] at hG
      obtain ⟨s, g1, hG⟩ := gb_s hG
      exact tl (by omega) (ih 2 q v b s (by omega) g1) hG
    · rw [G_2] at hG
      obtain ⟨s, g1, hG⟩ := gb_s hG
      exact tl (by omega) (ih 4 q v b s (by omega) g1) hG
    · rw [G_4] at hG
      by_cases c : tkK T n q = 66
      · rw [if_pos c] at hG
        exact Or.inl ((Iz_gO (Iz_gT (fun q1 => Iz_gb (fun r => Iz_ss)))) r hG)
      · rw [if_neg c] at hG
        exact ih 5 q v b r (by omega) hG
    · rw [G_5] at hG
      obtain ⟨s, g1, hG⟩ := gb_s hG
      have t := ih 6 q v b s (by omega) g1
      by_cases c : isRl (tkK T n s.1)
      · rw [if_pos c] at hG
        exact Or.inl ((Iz_gT (fun q1 => Iz_gb (fun r => Iz_ss))) r hG)
      · rw [if_neg c] at hG
        cases hG
        exact Tx_c t rfl rfl rfl rfl rfl
    · rw [G_6] at hG
      obtain ⟨s, g1, hG⟩ := gb_s hG
      exact tl (by omega) (ih 8 q v b s (by omega) g1) hG
    · rw [G_8] at hG
      obtain ⟨s, g1, hG⟩ := gb_s hG
      exact tl (by omega) (ih 10 q v b s (by omega) g1) hG
    · rw [G_10] at hG
      obtain ⟨s, g1, hG⟩ := gb_s hG
      have t := ih 11 q v b s (by omega) g1
      by_cases c : tkK T n s.1 = 5
      · rw [if_pos c] at hG
        exact Or.inl ((Iz_gO (Iz_gT (fun q1 => Iz_gb (fun r => Iz_ss)))) r hG)
      · rw [if_neg c] at hG
        cases hG
        exact Tx_c t rfl rfl rfl rfl rfl
    · rw [G_11] at hG
      by_cases c : tkK T n q = 3 ∨ tkK T n q = 23
      · rw [if_pos c] at hG
        exact Or.inl ((Iz_gO (Iz_gT (fun q1 => Iz_gb (fun r => Iz_ss)))) r hG)
      rw [if_neg c] at hG
      by_cases c2 : tkK T n q = 2 ∨ tkK T n q = 4 ∨ tkK T n q = 81 ∨ tkK T n q = 80
      · rw [if_pos c2] at hG
        exact Or.inl ((Iz_gO (Iz_gT (fun q1 => Iz_gW (fun q2 => Iz_gb (fun r => Iz_ss))))) r hG)
      rw [if_neg c2] at hG
      obtain ⟨s, g1, hG⟩ := gb_s hG
      cases f with
      | zero => exact absurd g1 (by unfold G; intro h; cases h)
      | succ f =>
        rcases G13_i g1 with z | ⟨z1, z2, z3⟩
        · rw [z] at hG
          exact Or.inl (G12_0 _ _ _ _ _ _ _ hG)
        · subst z3
          refine Or.inr ⟨f + 1, r, ?_, rfl, rfl, rfl, rfl, rfl⟩
          unfold gTg
          rw [if_pos z1.1]
          unfold gT
          rw [if_neg z2]
          dsimp only
          rw [if_pos z1.2]
          exact hG
end IZS
