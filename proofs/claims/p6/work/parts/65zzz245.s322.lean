/-! Iterators of a for, as the grammar lays them: their names are slots that count. -/
/-- flags of slots below v -/
def FlR (un : Nat) (P : Nat → Prop) (y : Int32) (v : Nat) (b b' : BT) : Prop := b = b' ∧ ∀ x, P x → x < v ∧ b.2.2.2.2 (60 * un + x) = y
theorem FlR_c {un : Nat} {P : Nat → Prop} {y : Int32} : RC un (FlR un P y) := by
  refine ⟨fun v b b' h => ?_, fun v b b' k x y z h => ?_, fun v b b' j l x h => ?_, fun v b b' T f m h => ?_, fun v b b' x h => ?_⟩
  · rw [h.1]; exact ⟨rfl, rfl⟩
  · exact ⟨by rw [h.1], h.2⟩
  · exact ⟨by rw [h.1], h.2⟩
  · exact ⟨by rw [h.1], h.2⟩
  · refine ⟨by rw [h.1], fun s hs => ?_⟩
    obtain ⟨h1, h2⟩ := h.2 s hs
    refine ⟨by omega, ?_⟩
    show upd b.2.2.2.2 (60 * un + v) x (60 * un + s) = y
    rw [upd_other (by omega)]; exact h2
section NMS
variable {T : Nat → Int32} {n : Nat}
/-- flags stay -/
theorem g_fl {f nt : Nat} {E : En} {o q v i e c g : Nat} {b : BT} {r : RT} {P : Nat → Prop} {y : Int32} (hG : G T n f nt E o q v i e c g b = some (some r)) (h : ∀ x, P x → x < v ∧ b.2.2.2.2 (60 * E.2.2.2.1 + x) = y) : ∀ x, P x → x < r.2.1 ∧ r.2.2.2.2.1.2.2.2.2 (60 * E.2.2.2.1 + x) = y := by
  have := G_R (T := T) (n := n) (FlR_c (un := E.2.2.2.1) (P := P) (y := y)) f nt E o q v i e c g b b rfl ⟨rfl, h⟩
  rcases this with ⟨h1, _⟩ | ⟨h1, _⟩ | ⟨q1, v1, i1, e1, b1, b2, nm, h1, _, h3⟩
  · rw [h1] at hG; cases hG
  · rw [h1] at hG; cases hG
  · rw [h1] at hG
    cases hG
    exact h3.2
/-- names told: slots with the flag g -/
def NmF (un : Nat) (y : Int32) (v : Nat) (b : BT) (ns : List Nm) : Prop := ∀ x ∈ ns, x.2.2 < v ∧ b.2.2.2.2 (60 * un + x.2.2) = y
theorem NmF_g {f nt : Nat} {E : En} {o q v i e c g : Nat} {b : BT} {r : RT} {y : Int32} {ns : List Nm} {un : Nat} (hG : G T n f nt E o q v i e c g b = some (some r)) (hun : E.2.2.2.1 = un) (h : NmF un y v b ns) : NmF un y r.2.1 r.2.2.2.2.1 ns := by
  subst hun
  intro x hx
  have := g_fl (P := fun s => ∃ x ∈ ns, x.2.2 = s) (y := y) hG (fun s ⟨x, hx, e⟩ => by rw [← e]; exact h x hx) x.2.2 ⟨x, hx, rfl⟩
  exact this
theorem NmF_app {un v : Nat} {y : Int32} {b : BT} {a c : List Nm} (h : NmF un y v b a) (h' : NmF un y v b c) : NmF un y v b (a ++ c) := fun x hx => by
  rcases List.mem_append.mp hx with z | z
  · exact h x z
  · exact h' x z
/-- a name -/
theorem NmF_1 {un v g f m : Nat} {b : BT} {k x y z : Int32} {s : List Int32} {p : Nat} : NmF un (nI g) (v + 1) (bNode (bKeep (bSlot b (60 * un + v) (nI g)) T f m) k x y z) [(s, p, v)] := fun w hw => by
  rw [List.mem_singleton.mp hw]
  exact ⟨Nat.lt_succ_self _, upd_same⟩
theorem g18_n : ∀ (f : Nat) (E : En) (o q v i e c g : Nat) (b : BT) (r : RT), G T n f 18 E o q v i e c g b = some (some r) → NmF E.2.2.2.1 (nI g) r.2.1 r.2.2.2.2.1 r.2.2.2.2.2 := by
  intro f
  induction f with
  | zero => intro E o q v i e c g b r hG; simp only [G] at hG; cases hG
  | succ f ih =>
    intro E o q v i e c g b r hG
    rw [G_18] at hG
    by_cases y1 : tkK T n q = 12
    · rw [if_pos y1] at hG
      obtain ⟨_, hG⟩ := gT_s hG
      obtain ⟨_, hv6, hG⟩ := gN_s hG
      obtain ⟨s, g1, hG⟩ := gb_s hG
      have a3 := ih _ _ _ _ _ _ _ _ _ _ g1
      have n1 := NmF_g (un := E.2.2.2.1) g1 rfl (show NmF E.2.2.2.1 (nI g) (v + 1) (bSet (bNode (bKeep (bSlot b (60 * E.2.2.2.1 + v) (nI g)) T (tkN T n q) (tkE T n (tkN T n q) - tkN T n q)) 31 (if E.2.2.2.1 = 0 then 0 else 1) (nI v) 0) 9 e (nI b.1)) [(tkS T n (tkN T n q), b.2.1, v)] from NmF_1 (T := T) (k := 0) (x := 0) (y := 0) (z := 0))
      cases hG
      exact NmF_app a3 n1
    · rw [if_neg y1] at hG
      cases hG
      exact fun x hx => absurd hx (List.not_mem_nil)
theorem g17_n : ∀ (f : Nat) (E : En) (o q v i e c g : Nat) (b : BT) (r : RT), G T n f 17 E o q v i e c g b = some (some r) → NmF E.2.2.2.1 (nI g) r.2.1 r.2.2.2.2.1 r.2.2.2.2.2 := by
  intro f
  induction f with
  | zero => intro E o q v i e c g b r hG; simp only [G] at hG; cases hG
  | succ f ih =>
    intro E o q v i e c g b r hG
    have w : ∀ {v : Nat} {b : BT} {ns : List Nm} {k x y z : Int32}, NmF E.2.2.2.1 (nI g) v b ns → NmF E.2.2.2.1 (nI g) v (if i = 0 then bNode b k x y z else bSet (bNode b k x y z) 9 e (nI b.1)) ns := fun {v b ns k x y z} h => by
      by_cases c : i = 0
      · rw [if_pos c]; exact h
      · rw [if_neg c]; exact h
    rw [G_17] at hG
    by_cases y1 : tkK T n q = 10
    · rw [if_pos y1] at hG
      obtain ⟨_, hG⟩ := gO_s hG
      obtain ⟨_, hG⟩ := gT_s hG
      obtain ⟨_, hv6, hG⟩ := gN_s hG
      obtain ⟨s, g1, hG⟩ := gb_s hG
      have a3 := g18_n _ _ _ _ _ _ _ _ _ _ _ g1
      have n1 := NmF_g (un := E.2.2.2.1) g1 rfl (show NmF E.2.2.2.1 (nI g) (v + 1) (bNode (bKeep (bSlot b (60 * E.2.2.2.1 + v) (nI g)) T (tkN T n q) (tkE T n (tkN T n q) - tkN T n q)) 31 (if E.2.2.2.1 = 0 then 0 else 1) (nI v) 0) [(tkS T n (tkN T n q), b.2.1, v)] from NmF_1)
      have n2 := NmF_app a3 n1
      obtain ⟨_, _, hG⟩ := gW_s hG
      obtain ⟨_, _, hG⟩ := gW_s hG
      obtain ⟨t, g2, hG⟩ := gb_s hG
      have n3 := NmF_g (un := E.2.2.2.1) g2 rfl n2
      by_cases y2 : tkK T n t.1 = 12
      · rw [if_pos y2] at hG
        obtain ⟨_, hG⟩ := gT_s hG
        obtain ⟨u, g3, hG⟩ := gb_s hG
        have n4 := NmF_g (un := E.2.2.2.1) g3 rfl (w n3)
        have n5 := ih _ _ _ _ _ _ _ _ _ _ g3
        cases hG
        exact NmF_app n5 n4
      · rw [if_neg y2] at hG
        cases hG
        exact w n3
    · rw [if_neg y1] at hG
      obtain ⟨_, hv6, hG⟩ := gN_s hG
      have n2 : NmF E.2.2.2.1 (nI g) (v + 1) (bNode (bKeep (bSlot b (60 * E.2.2.2.1 + v) (nI g)) T q (tkE T n q - q)) 31 (if E.2.2.2.1 = 0 then 0 else 1) (nI v) 0) [(tkS T n q, b.2.1, v)] := NmF_1
      obtain ⟨_, _, hG⟩ := gW_s hG
      obtain ⟨t, g2, hG⟩ := gb_s hG
      have n3 := NmF_g (un := E.2.2.2.1) g2 rfl n2
      by_cases y2 : tkK T n t.1 = 12
      · rw [if_pos y2] at hG
        obtain ⟨_, hG⟩ := gT_s hG
        obtain ⟨u, g3, hG⟩ := gb_s hG
        have n4 := NmF_g (un := E.2.2.2.1) g3 rfl (w n3)
        have n5 := ih _ _ _ _ _ _ _ _ _ _ g3
        cases hG
        exact NmF_app n5 n4
      · rw [if_neg y2] at hG
        cases hG
        exact w n3
end NMS
