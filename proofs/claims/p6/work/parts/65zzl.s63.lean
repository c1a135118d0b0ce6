/-! Statements without parts: they go on, and lay no more than there are bytes. -/
section SMO
variable {T : Nat → Int32} {n : Nat} {E : En} {o q v M f : Nat} {b : BT} {MD : Nat → Nat → Nat}
/-- what is laid by a statement that goes on -/
def MoS (n M : Nat) (b : BT) (q v : Nat) (r : RT) : Prop := Mo n b q v r ∧ (M ≤ r.2.2.2.1 ∧ r.2.2.2.1 < r.2.2.2.2.1.1) ∧ q < r.1
theorem Mo_tr {b1 : BT} {q1 v1 : Nat} {r : RT} (h : q ≤ q1 ∧ q1 ≤ n ∧ v ≤ v1 ∧ v1 ≤ 60 ∧ b.1 ≤ b1.1 ∧ b1.1 + q ≤ b.1 + q1 ∧ b.2.1 ≤ b1.2.1 ∧ b1.2.1 + q ≤ b.2.1 + q1) (hM : M ≤ b.1) (g : MoS n M b1 q1 v1 r) : MoS n M b q v r := by
  obtain ⟨⟨a1, a2, a3, a4, a5, a6, a7, a8⟩, a9, a10⟩ := g
  exact ⟨by unfold Mo; omega, a9, by omega⟩
theorem mo13 {a c d z : Int32} {r : RT} (hq : q ≤ n) (hv : v ≤ 60) (hM : M ≤ b.1) (hG : gW T n 13 q (fun q4 => some (some (q4, v, 0, b.1, bNode b a c d z, []))) = some (some r)) : MoS n M b q v r := by
  obtain ⟨t, _, hG⟩ := gW_s hG
  have hu := tkN_b T n q hq
  have hu4 := hu.2.2.2 (by rw [t]; decide)
  cases hG
  refine ⟨?_, ⟨hM, (by show b.1 < b.1 + 1; omega)⟩, hu4⟩
  unfold Mo
  dsimp only
  rw [bNode_1, bNode_p]; omega
theorem moS13 {a c d z : Int32} {r : RT} (hq : q ≤ n) (hv : v ≤ 60) (hM : M ≤ b.1) (hG : gS13 T n q v b.1 (bNode b a c d z) = some (some r)) : MoS n M b q v r := mo13 hq hv hM hG
theorem moE13 {a c z : Int32} {r : RT} (hq : q ≤ n) (hv : v ≤ 60) (h1 : 1 ≤ M) (hM : M ≤ b.1) (hG : gE13 T n f E o q v b a c z = some (some r)) : MoS n M b q v r := by
  unfold gE13 at hG
  obtain ⟨s, h7, hG⟩ := gb_s hG
  obtain ⟨⟨a1, a2, a3, a4, a5, a6, a7, a8⟩, a9⟩ := mo_of (M := M) hq hv h7 hM h1 trivial (fun h => h) (fun h => h)
  exact Mo_tr (by omega) hM (mo13 (M := M) a2 (by omega) (by omega) hG)
theorem moCl {md : Nat → Nat} {np p : Nat} {tg : Int32} {r : RT} (hq : q ≤ n) (hv : v ≤ 60) (h1 : 1 ≤ M) (hM : M ≤ b.1) (hG : gCl T n f md np p tg E o q v b = some (some r)) : MoS n M b q v r := by
  unfold gCl at hG
  obtain ⟨_, hG⟩ := gT_s hG
  have hu := tkN_b T n q hq
  generalize tkN T n q = q1 at hG hu
  by_cases c : tkK T n q1 = 6
  · rw [if_pos c] at hG
    obtain ⟨_, hG⟩ := gO_s hG
    obtain ⟨_, hG⟩ := gT_s hG
    have hu1 := tkN_b T n q1 hu.2.1
    obtain ⟨s, h7, hG⟩ := gb_s hG
    obtain ⟨⟨a1, a2, a3, a4, a5, a6, a7, a8⟩, a9, a10⟩ := ga_mo f _ _ _ _ _ _ _ s M hu1.2.1 hv h7 hM h1 (Nat.zero_le _) (Or.inl rfl)
    try dsimp only at hG
    by_cases c2 : tkK T n s.1 = 7 ∧ s.2.2.1 = np
    · rw [if_pos c2] at hG
      obtain ⟨_, hG⟩ := gT_s hG
      have hus := tkN_b T n s.1 a2
      exact Mo_tr (by omega) hM (mo13 (M := M) hus.2.1 (by omega) (by omega) hG)
    · rw [if_neg c2] at hG; cases hG
  · rw [if_neg c] at hG; cases hG
theorem moAs {i e : Nat} {r : RT} (hq : q ≤ n) (hv : v ≤ 60) (h1 : 1 ≤ M) (hM : M ≤ b.1) (hG : gAs T n f MD E o i e q v b = some (some r)) : MoS n M b q v r := by
  unfold gAs at hG
  by_cases c : tkK T n q = 63
  · rw [if_pos c] at hG
    by_cases c2 : i = 1
    · rw [if_pos c2] at hG
      obtain ⟨_, hG⟩ := gT_s hG
      have hu := tkN_b T n q hq
      exact Mo_tr (by omega) hM (mo13 (M := M) hu.2.1 hv hM hG)
    · rw [if_neg c2] at hG; cases hG
  rw [if_neg c] at hG
  by_cases c3 : tkK T n q = 26 ∧ (fd E (tkS T n q)).1 = 3
  · rw [if_pos c3] at hG; exact moCl hq hv h1 hM hG
  · rw [if_neg c3] at hG; exact moE13 hq hv h1 hM hG
theorem moBh {i e : Nat} {r : RT} (hq : q ≤ n) (hv : v ≤ 60) (h1 : 1 ≤ M) (hM : M ≤ b.1) (hG : gBh T n f MD E o i e q v b = some (some r)) : MoS n M b q v r := by
  unfold gBh at hG
  have hu := tkN_b T n q hq
  by_cases c : tkK T n q = 2 ∨ tkK T n q = 3 ∨ tkK T n q = 4
  · rw [if_pos c] at hG
    obtain ⟨_, hG⟩ := gT_s hG
    obtain ⟨_, _, hG⟩ := gW_s hG
    have hu1 := tkN_b T n _ hu.2.1
    exact Mo_tr (by omega) hM (moE13 hu1.2.1 hv h1 hM hG)
  rw [if_neg c] at hG
  by_cases c2 : tkK T n q = 57 ∨ tkK T n q = 58 ∨ tkK T n q = 59
  · rw [if_pos c2] at hG
    obtain ⟨_, hG⟩ := gT_s hG
    obtain ⟨s, h7, hG⟩ := gb_s hG
    obtain ⟨⟨a1, a2, a3, a4, a5, a6, a7, a8⟩, a9, a10, a11⟩ := gTg_mo (M := M) hu.2.1 hv hM h1 h7
    exact Mo_tr (by omega) hM (mo13 (M := M) a2 (by omega) (by omega) hG)
  · rw [if_neg c2] at hG
    obtain ⟨_, _, hG⟩ := gW_s hG
    exact Mo_tr (by omega) hM (moAs hu.2.1 hv h1 hM hG)
theorem moBg {r : RT} (hq : q ≤ n) (hv : v ≤ 60) (h1 : 1 ≤ M) (hM : M ≤ b.1) (hG : gBg T n f MD E o q v b = some (some r)) : MoS n M b q v r := by
  unfold gBg at hG
  by_cases c : (fd E (tkS T n q)).1 = 3
  · rw [if_pos c] at hG; exact moCl hq hv h1 hM hG
  rw [if_neg c] at hG
  obtain ⟨s, h7, hG⟩ := gb_s hG
  obtain ⟨⟨a1, a2, a3, a4, a5, a6, a7, a8⟩, a9, a10, a11⟩ := gTg_mo (M := M) hq hv hM h1 h7
  exact Mo_tr (by omega) hM (moBh (M := M) a2 (by omega) h1 (by omega) hG)
theorem moPa {r : RT} (hq : q ≤ n) (hv : v ≤ 60) (h1 : 1 ≤ M) (hM : M ≤ b.1) (hG : gPa T n f E o q v b = some (some r)) : MoS n M b q v r := by
  unfold gPa at hG
  have hu := tkN_b T n q hq
  obtain ⟨_, hG⟩ := gO_s hG
  obtain ⟨_, hG⟩ := gT_s hG
  obtain ⟨s, h7, hG⟩ := gb_s hG
  obtain ⟨⟨a1, a2, a3, a4, a5, a6, a7, a8⟩, a9, a10⟩ := gpt_mo f _ _ _ _ _ _ s M hu.2.1 hv h7 hM h1 (fun z => absurd rfl z)
  have hus := tkN_b T n s.1 a2
  obtain ⟨_, _, hG⟩ := gW_s hG
  have hu2 := tkN_b T n _ hus.2.1
  obtain ⟨_, _, hG⟩ := gW_s hG
  exact Mo_tr (by omega) hM (moE13 (M := M) hu2.2.1 (by omega) h1 (by omega) hG)
theorem moSm {lp : Nat} {r : RT} (hq : q ≤ n) (hv : v ≤ 60) (h1 : 1 ≤ M) (hM : M ≤ b.1) (hG : gSm T n f lp E o q v b = some (some r)) : MoS n M b q v r := by
  unfold gSm at hG
  have hu := tkN_b T n q hq
  by_cases c : ((tkK T n q = 49 ∨ tkK T n q = 50) ∧ lp = 0) ∨ (tkK T n q = 51 ∧ (E.2.2.2.1 = 0 ∨ 41 < E.2.2.2.1))
  · rw [if_pos c] at hG; cases hG
  rw [if_neg c] at hG
  obtain ⟨_, hG⟩ := gT_s hG
  unfold gSm0 at hG
  generalize tkK T n q - 32 = w at hG
  generalize tkN T n q = q1 at hG hu
  refine Mo_tr (b1 := b) (q1 := q1) (v1 := v) (by omega) hM ?_
  have hx : ∀ a : Int32, gb (G T n f 0 E o q1 v 0 0 0 0 b) (fun r => gS13 T n r.1 r.2.1 r.2.2.2.2.1.1 (bNode r.2.2.2.2.1 a (nI r.2.2.2.1) 0 0)) = some (some r) → MoS n M b q1 v r := fun a hG => by
    obtain ⟨s, h7, hG⟩ := gb_s hG
    obtain ⟨⟨a1, a2, a3, a4, a5, a6, a7, a8⟩, a9⟩ := mo_of (M := M) hu.2.1 hv h7 hM h1 trivial (fun h => h) (fun h => h)
    exact Mo_tr (by omega) hM (moS13 (M := M) a2 (by omega) (by omega) hG)
  by_cases c1 : w = 19
  · rw [if_pos c1] at hG
    by_cases c2 : tkK T n q1 = 13
    · rw [if_pos c2] at hG; exact moS13 hu.2.1 hv hM hG
    · rw [if_neg c2] at hG; exact hx _ hG
  rw [if_neg c1] at hG
  by_cases c2 : w = 20
  · rw [if_pos c2] at hG
    by_cases c3 : tkK T n q1 = 6
    · rw [if_pos c3] at hG
      obtain ⟨_, hG⟩ := gO_s hG
      obtain ⟨_, hG⟩ := gT_s hG
      have hu1 := tkN_b T n q1 hu.2.1
      obtain ⟨s, h7, hG⟩ := gb_s hG
      obtain ⟨⟨a1, a2, a3, a4, a5, a6, a7, a8⟩, a9⟩ := mo_of (M := M) hu1.2.1 hv h7 hM h1 trivial (fun h => h) (fun h => h)
      obtain ⟨t, h8, hG⟩ := gb_s hG
      obtain ⟨⟨b1, b2, b3, b4, b5, b6, b7, b8⟩, b9⟩ := gpr_mo f _ _ _ _ _ t M a2 (by omega) h8 (by omega) h1 a9.1 a9.2
      obtain ⟨_, _, hG⟩ := gW_s hG
      have hut := tkN_b T n t.1 b2
      exact Mo_tr (by omega) hM (moS13 (M := M) hut.2.1 (by omega) (by omega) hG)
    · rw [if_neg c3] at hG; cases hG
  rw [if_neg c2] at hG
  by_cases c3 : w = 21
  · rw [if_pos c3] at hG; exact hx _ hG
  · rw [if_neg c3] at hG; exact moS13 hu.2.1 hv hM hG
end SMO
