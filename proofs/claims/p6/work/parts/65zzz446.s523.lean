/-! The class: declarations: a variable is told; names as the reference has them. -/
section DYA
variable {σ σ' σ0 τ τ' τ0 : CS} {L : LV} {b : Bool} {T : Nat → Int32} {n q q' u al o v mk mk' p sz sz' szB nc nc0 sz0 mk0 a1 a2 m kk f w st w' st' r0 c vg : Nat} {y qh : Int32} {l l' cs cs' : List Int32} {tb tb' es : List Ent} {E : En} {gl : Nat × (Nat → Nat → Prop)} {Vm : Nat → Prop} {bt : BT} {lo : Option Nat} {α : Type} {S : α → Int32 → CS → Prop} {x : Option α} {C : Prop} {bs : List Int32}
/-- a variable of the unit is told -/
theorem c_tv (h : QS T n b u al tb o q v mk 0 sz τ) (zf : ZF b u w st lo qh τ) (hu : u < 42) (hl : v < 60 → tb.length < 256) (hp : w ≤ 1000) (l1 : L.1 1 = nI r0) (hr : r0 ≤ tb.length) {z : Option Unit} (hx : (¬ NmG T n tb r0 q v ∧ z = none) ∨ (NmG T n tb r0 q v ∧ z = some ())) : Tm (fun k => f_X5_tellVariable k 0 L τ) (ZPo b u tb.length sz mk z (fun _ _ τ' => QS T n b u al (tb ++ [(tkS T n q, 0, u, w, false)]) o (tkN T n q) (v + 1) mk 0 sz τ' ∧ ZF b u (w + 1) st lo qh τ') τ 0 0) := by
  have s0 := Zy_0 h zf
  have e3 : τ.1 4003 = nI u := h.2.2.2.2.1.2.1
  have i42 : ¬ (nI u < 0 ∨ 42 ≤ (nI u).toNatClampNeg) := u_in (by rw [u_n (by omega)]; omega) (by decide)
  refine Tm_suc (fun k => by rw [f_X5_tellVariable]) ?_
  have hx2 : (¬ (tkK T n q = 26 ∧ (∀ j, r0 ≤ j → j < tb.length → ¬ (tb.getD j e0E).1 = tkS T n q) ∧ ¬ v = 60) ∧ z = none) ∨ ((tkK T n q = 26 ∧ (∀ j, r0 ≤ j → j < tb.length → ¬ (tb.getD j e0E).1 = tkS T n q) ∧ ¬ v = 60) ∧ (tkK T n q = 26 ∧ (¬ v = 60) ∧ ((tkK T n (tkN T n q) = 0 ∧ z = none) ∨ (¬ tkK T n (tkN T n q) = 0 ∧ z = some ())))) := by
    by_cases z : tkK T n q = 26 ∧ (∀ j, r0 ≤ j → j < tb.length → ¬ (tb.getD j e0E).1 = tkS T n q) ∧ ¬ v = 60
    · refine Or.inr ⟨z, z.1, z.2.2, ?_⟩
      rcases hx with ⟨w1, w2⟩ | ⟨w1, w2⟩
      · refine Or.inl ⟨?_, w2⟩
        by_cases z2 : tkK T n (tkN T n q) = 0
        · exact z2
        · exact absurd ⟨z.1, z.2.1, z.2.2, z2⟩ w1
      · exact Or.inr ⟨w1.2.2.2, w2⟩
    · refine Or.inl ⟨z, ?_⟩
      rcases hx with ⟨w1, w2⟩ | ⟨w1, w2⟩
      · exact w2
      · exact absurd ⟨w1.1, w1.2.1, w1.2.2.1⟩ z
  refine zt_chk (L := lI lZ 1 (L.1 1)) (f' := fun k r1 => oP (sPp r1.2.1) (fun b2 => if ¬ (((r1.2.1.1 4003)) < 0 ∨ 42 ≤ ((r1.2.1.1 4003)).toNatClampNeg) then (if ¬ (((r1.2.1.1 4003)) < 0 ∨ 42 ≤ ((r1.2.1.1 4003)).toNatClampNeg) then (oP (sPp (uA r1.2.1 (pR17 b2) ((r1.2.1.1 4003)).toNatClampNeg ((((r1.2.1.2.2.1 (pR17 b2) ((r1.2.1.1 4003)).toNatClampNeg)) + 1)))) (fun b5 => oP (sPp (uA r1.2.1 (pR17 b2) ((r1.2.1.1 4003)).toNatClampNeg ((((r1.2.1.2.2.1 (pR17 b2) ((r1.2.1.1 4003)).toNatClampNeg)) + 1)))) (fun b6 => op (y_X7_newSlots__P k 0 (lI (lI (lB lZ 0 b6) 1 (((uA r1.2.1 (pR17 b2) ((r1.2.1.1 4003)).toNatClampNeg ((((r1.2.1.2.2.1 (pR17 b2) ((r1.2.1.1 4003)).toNatClampNeg)) + 1))).1 4003))) 2 1) (uA r1.2.1 (pR17 b2) ((r1.2.1.1 4003)).toNatClampNeg ((((r1.2.1.2.2.1 (pR17 b2) ((r1.2.1.1 4003)).toNatClampNeg)) + 1)))) (fun r7 => op (y_X7_tell__P k 0 (lI (lI (lI (lJ (lJ (lB lZ 0 b5) 1 (((uA r1.2.1 (pR17 b2) ((r1.2.1.1 4003)).toNatClampNeg ((((r1.2.1.2.2.1 (pR17 b2) ((r1.2.1.1 4003)).toNatClampNeg)) + 1))).2.1 3705))) 3 (((uA r1.2.1 (pR17 b2) ((r1.2.1.1 4003)).toNatClampNeg ((((r1.2.1.2.2.1 (pR17 b2) ((r1.2.1.1 4003)).toNatClampNeg)) + 1))).2.1 3706))) 5 0) 6 (((uA r1.2.1 (pR17 b2) ((r1.2.1.1 4003)).toNatClampNeg ((((r1.2.1.2.2.1 (pR17 b2) ((r1.2.1.1 4003)).toNatClampNeg)) + 1))).1 4003))) 7 r7.1) r7.2) (fun r8 => ox (f_X2_advance k 0 lZ r8.2) (fun r9 => some ((0, 0), r9.2.1, (0, 0)))))))) else none) else none)) s0 hu l1 hr hx2 (fun τ1 ret1 m1 m2 c1 s1 => ?_)
  obtain ⟨k26, v60, c1⟩ := c1
  have hl := hl (by have := h.2.2.2.2.2.2.1.2; omega)
  have e31 : τ1.1 4003 = nI u := s1.1.1.2.2.2.2.1.2.1
  have cl : (nI u).toNatClampNeg = u := n_cl (p := u) (by omega)
  refine Tm_oP (Zy_pp s1) ?_
  show Tm (fun k => if ¬ (τ1.1 4003 < 0 ∨ 42 ≤ (τ1.1 4003).toNatClampNeg) then (if ¬ (τ1.1 4003 < 0 ∨ 42 ≤ (τ1.1 4003).toNatClampNeg) then (oP (sPp τ1) (fun b5 => oP (sPp τ1) (fun b6 => op (y_X7_newSlots__P k 0 (lI (lI (lB lZ 0 b6) 1 (τ1.1 4003)) 2 1) (uA τ1 (pR17 b) (τ1.1 4003).toNatClampNeg (τ1.2.2.1 (pR17 b) (τ1.1 4003).toNatClampNeg + 1))) (fun r7 => op (y_X7_tell__P k 0 (lI (lI (lI (lJ (lJ (lB lZ 0 b5) 1 (τ1.2.1 3705)) 3 (τ1.2.1 3706)) 5 0) 6 (τ1.1 4003)) 7 r7.1) r7.2) (fun r8 => ox (f_X2_advance k 0 lZ r8.2) (fun r9 => some ((0, 0), r9.2.1, (0, 0)))))))) else none) else none) _
  rw [e31, cl]
  have i42' := i42
  rw [cl] at i42'
  refine Tm_chk i42' (Tm_chk i42' ?_)
  have s1' : Zy T n b u al τ tb.length sz mk (0 + m1) (0 + m2) tb o q (v + 1) mk w st lo qh sz [] (uA τ1 (pR17 b) u (τ1.2.2.1 (pR17 b) u + 1)) := by
    have pc2 := pR18_c b
    exact Zy_r s1 (Or.inl rfl) (ZF_e s1.2.2 (fun _ _ => rfl) (by rw [uA_k (by omega)]) rfl)
  refine Tm_oP (Zy_pp s1) (Tm_oP (Zy_pp s1) ?_)
  have ns1 := c_newSlots (L := lI (lI (lB lZ 0 b) 1 (nI u)) 2 1) (k0 := 1) s1' hu (by omega) rfl rfl rfl
  refine Tm_op ns1 (fun r2 z2 => ?_)
  obtain ⟨er2, s2⟩ := z2
  have okn : okN (tkS T n q) := (s2.1.1.1.2.2.2.2.2.2.2.2 k26).2
  have ky := (s1.1.1.1.2.2.2.2.2.2.2.2 k26).1
  refine Tm_op (c_tell (bs := tkS T n q) (w0 := 0) (o0 := u) (s0 := w) s2.1.1.2.2.2.1 hl rfl okn ky.1 ky.2 rfl rfl er2) (fun r3 z3 => ?_)
  have s3 := Zy_tb s2 z3 (Nat.le_refl _) (by rw [List.length_append]; omega)
  refine zt_adv s3 c1 (fun τ5 ret5 m3 m4 c5 s5 xk5 => ?_)
  rw [c5]
  exact Tm_some (Zfin s5 ⟨s5.1.1, s5.2.2⟩)
theorem zt_tv {f' : Nat → RS → Option RS} (h : Zy T n b u al σ0 nc0 sz0 mk0 a1 a2 tb o q v mk w st lo qh szB cs τ) (hu : u < 42) (hl : v < 60 → tb.length < 256) (hp : w ≤ 1000) (l1 : L.1 1 = nI r0) (hr : r0 ≤ tb.length) (hx : (¬ NmG T n tb r0 q v ∧ x = none) ∨ (NmG T n tb r0 q v ∧ C)) (cont : ∀ (τ' : CS) (ret : Int32) (n1 n2 : Nat), C → Zy T n b u al σ0 nc0 sz0 mk0 (a1 + n1) (a2 + n2) (tb ++ [(tkS T n q, 0, u, w, false)]) o (tkN T n q) (v + 1) mk (w + 1) st lo qh szB cs τ' → ZK b u tb.length (szB + cs.length) mk τ τ' → Tm (fun k => f' k ((0, ret), τ', (n1, n2))) (ZPo b u nc0 sz0 mk0 x S σ0 (a1 + n1) (a2 + n2))) : Tm (fun k => ox (f_X5_tellVariable k 0 L τ) (f' k)) (ZPo b u nc0 sz0 mk0 x S σ0 a1 a2) := by
  rcases hx with ⟨w1, w2⟩ | ⟨w1, c⟩
  · exact zt_callZ (C := True) h (c_tv h.1.1 h.2.2 hu hl hp l1 hr (Or.inl ⟨w1, rfl⟩)) (Or.inl ⟨rfl, w2⟩)
  · exact zt_callZ (C := C) h (c_tv h.1.1 h.2.2 hu hl hp l1 hr (Or.inr ⟨w1, rfl⟩)) (Or.inr ⟨(), rfl, c, fun τ' ret n1 n2 hq zk hc => cont τ' ret n1 n2 c (Zy_c0 h hq.1 zk hc (by rw [List.length_append]; have := h.1.2.2.2.1; omega) h.1.2.2.2.2.2 hq.2) zk⟩)
/-- a global, a local, as the class's table has them -/
def gEn (x : Gn) : Ent := (x.1, x.2.2.1 - 1, 0, (if x.2.2.1 = 1 then x.2.2.2 else x.2.2.2 + 1), false)
def lEn (u : Nat) (x : Nm) : Ent := (x.1, 0, u, x.2.2, false)
def tbE (u : Nat) (E : En) : List Ent := E.1.map gEn ++ E.2.1.reverse.map (lEn u)
/-- what is told: vg globals, nc callables, v variables of the unit -/
def DE (E : En) (u vg nc v : Nat) : Prop := (E.2.2.2.1 = u ∧ (u = 0 → E.2.1 = [] ∧ vg = v) ∧ (¬ u = 0 → E.2.1.length = v)) ∧ (E.1.length = vg + nc ∧ vg ≤ 60 ∧ nc ≤ 40 ∧ v ≤ 60) ∧ E.1.Pairwise (fun a b => ¬ a.1 = b.1) ∧ (∀ x, x ∈ E.1 → okN x.1 ∧ ((x.2.2.1 = 1 ∧ x.2.2.2 < vg) ∨ ((x.2.2.1 = 2 ∨ x.2.2.1 = 3) ∧ x.2.2.2 < nc))) ∧ ∀ x, x ∈ E.2.1 → okN x.1 ∧ x.2.2 < v
theorem tbE_l (u : Nat) (E : En) : (tbE u E).length = E.1.length + E.2.1.length := by
  unfold tbE
  rw [List.length_append, List.length_map, List.length_map, List.length_reverse]
theorem gD_get {l : List Ent} {j : Nat} (h : j < l.length) : l.getD j e0E = l[j] := by
  rw [List.getD_eq_getElem?_getD, List.getElem?_eq_getElem h]
  rfl
theorem gD_ap {l l2 : List Ent} {j : Nat} (h : l.length ≤ j) : (l ++ l2).getD j e0E = l2.getD (j - l.length) e0E := by
  rw [List.getD_eq_getElem?_getD, List.getD_eq_getElem?_getD, List.getElem?_append_right h]
theorem gd_mem {l : List Ent} {P : Ent → Prop} : (∀ j, j < l.length → P (l.getD j e0E)) ↔ ∀ e, e ∈ l → P e := by
  constructor
  · intro h e he
    obtain ⟨j, hj, ej⟩ := List.getElem_of_mem he
    have := h j hj
    rw [gD_get hj, ej] at this
    exact this
  · intro h j hj
    rw [gD_get hj]
    exact h _ (List.getElem_mem hj)
theorem gd_memR {l l2 : List Ent} {P : Ent → Prop} : (∀ j, l.length ≤ j → j < (l ++ l2).length → P ((l ++ l2).getD j e0E)) ↔ ∀ e, e ∈ l2 → P e := by
  rw [← gd_mem]
  constructor
  · intro h j hj
    have := h (l.length + j) (by omega) (by rw [List.length_append]; omega)
    rw [gD_ap (by omega), Nat.add_sub_cancel_left] at this
    exact this
  · intro h j h1 h2
    rw [gD_ap h1]
    exact h _ (by rw [List.length_append] at h2; omega)
theorem fi_none {β : Type} {l : List β} {p : β → Bool} : (l.find? p).isSome = false ↔ ∀ x, x ∈ l → ¬ p x = true := by
  constructor
  · intro h x hx hp
    have e : (l.find? p).isSome = true := List.find?_isSome.2 ⟨x, hx, hp⟩
    rw [h] at e
    cases e
  · intro h
    cases e : (l.find? p).isSome with
    | false => rfl
    | true =>
      obtain ⟨x, hx, hp⟩ := List.find?_isSome.1 e
      exact absurd hp (h x hx)
/-- what a name is found as -/
theorem fd_cs (E : En) (bs : List Int32) : (∃ x, x ∈ E.2.1 ∧ x.1 = bs ∧ (fd E bs).1 = 1) ∨ ((∀ x, x ∈ E.2.1 → ¬ x.1 = bs) ∧ ∃ x, x ∈ E.1 ∧ x.1 = bs ∧ E.1.find? (fun x => decide (x.1 = bs)) = some x ∧ (fd E bs).1 = x.2.2.1 ∧ (fd E bs).2.1 = x.2.2.2) ∨ ((∀ x, x ∈ E.2.1 → ¬ x.1 = bs) ∧ (∀ x, x ∈ E.1 → ¬ x.1 = bs) ∧ (fd E bs).1 = 0) := by
  unfold fd
  cases e : E.2.1.find? (fun x => decide (x.1 = bs)) with
  | some x => exact Or.inl ⟨x, List.mem_of_find?_eq_some e, of_decide_eq_true (List.find?_some (p := fun x : Nm => decide (x.1 = bs)) e), rfl⟩
  | none =>
    have n1 : ∀ x, x ∈ E.2.1 → ¬ x.1 = bs := fun x hx hp => by
      have := List.find?_eq_none.1 e x hx
      exact this (decide_eq_true hp)
    right
    cases e2 : E.1.find? (fun x => decide (x.1 = bs)) with
    | some x => exact Or.inl ⟨n1, x, List.mem_of_find?_eq_some e2, of_decide_eq_true (List.find?_some (p := fun x : Gn => decide (x.1 = bs)) e2), rfl, rfl, rfl⟩
    | none =>
      refine Or.inr ⟨n1, fun x hx hp => ?_, rfl⟩
      have := List.find?_eq_none.1 e2 x hx
      exact this (decide_eq_true hp)
theorem mem_g {e : Ent} : e ∈ E.1.map gEn ↔ ∃ x, x ∈ E.1 ∧ gEn x = e := List.mem_map
theorem mem_l {e : Ent} : e ∈ E.2.1.reverse.map (lEn u) ↔ ∃ x, x ∈ E.2.1 ∧ lEn u x = e := by
  rw [List.mem_map]
  exact ⟨fun ⟨x, h1, h2⟩ => ⟨x, List.mem_reverse.1 h1, h2⟩, fun ⟨x, h1, h2⟩ => ⟨x, List.mem_reverse.2 h1, h2⟩⟩
/-- told before, among all -/
theorem told_0 (e2 : E.2.1 = []) (hg : ∀ x, x ∈ E.1 → ¬ x.2.2.1 = 0) : (∀ j, 0 ≤ j → j < (tbE u E).length → ¬ ((tbE u E).getD j e0E).1 = bs) ↔ (fd E bs).1 = 0 := by
  have h1 : (∀ j, 0 ≤ j → j < (tbE u E).length → ¬ ((tbE u E).getD j e0E).1 = bs) ↔ ∀ e, e ∈ tbE u E → ¬ e.1 = bs := by
    rw [← gd_mem (P := fun e => ¬ e.1 = bs)]
    exact ⟨fun h j hj => h j (Nat.zero_le _) hj, fun h j _ hj => h j hj⟩
  rw [h1]
  constructor
  · intro h
    rcases fd_cs E bs with ⟨x, y1, _⟩ | ⟨_, x, y1, y2, _⟩ | ⟨_, _, y3⟩
    · rw [e2] at y1; exact absurd y1 List.not_mem_nil
    · exact absurd y2 (h (gEn x) (List.mem_append_left _ (mem_g.2 ⟨x, y1, rfl⟩)))
    · exact y3
  · intro h e he eb
    rcases List.mem_append.1 he with z | z
    · obtain ⟨x, z1, z2⟩ := mem_g.1 z
      rw [← z2] at eb
      rcases fd_cs E bs with ⟨x', y1, _⟩ | ⟨_, x', y1, y2, _, y4, _⟩ | ⟨_, y2, y3⟩
      · rw [e2] at y1; exact absurd y1 List.not_mem_nil
      · rw [y4] at h; exact hg x' y1 h
      · exact y2 x z1 eb
    · obtain ⟨x, z1, _⟩ := mem_l.1 z
      rw [e2] at z1
      exact absurd z1 List.not_mem_nil
/-- told before, in the unit -/
theorem told_1 : (∀ j, E.1.length ≤ j → j < (tbE u E).length → ¬ ((tbE u E).getD j e0E).1 = bs) ↔ (E.2.1.find? (fun x => decide (x.1 = bs))).isSome = false := by
  have el : E.1.length = (E.1.map gEn).length := (List.length_map _).symm
  rw [el, fi_none]
  unfold tbE
  rw [gd_memR (P := fun e => ¬ e.1 = bs)]
  constructor
  · intro h x hx hp
    exact h (lEn u x) (mem_l.2 ⟨x, hx, rfl⟩) (of_decide_eq_true hp)
  · intro h e he eb
    obtain ⟨x, z1, z2⟩ := mem_l.1 he
    rw [← z2] at eb
    exact h x z1 (decide_eq_true eb)
def VmD (v : Nat) : Nat → Prop := fun i => ∃ s, s < v ∧ i = 500000 + s
def glD (E : En) (vg : Nat) : Nat × (Nat → Nat → Prop) := (vg, fun w np => ∃ x, x ∈ E.1 ∧ x.2.2.1 = 2 ∧ w = x.2.2.2 + 1 ∧ np = E.2.2.2.2.2.2 x.2.2.2)
def PcD (E : En) : Nat → Nat → Prop := fun w np => ∃ x, x ∈ E.1 ∧ x.2.2.1 = 3 ∧ w = x.2.2.2 + 1 ∧ np = E.2.2.2.2.2.2 x.2.2.2
theorem pw_inj {l : List Gn} (h : l.Pairwise (fun a b => ¬ a.1 = b.1)) : ∀ x y, x ∈ l → y ∈ l → x.1 = y.1 → x = y := by
  induction l with
  | nil => exact fun x y hx => absurd hx List.not_mem_nil
  | cons a l ih =>
    rw [List.pairwise_cons] at h
    intro x y hx hy e
    rcases List.mem_cons.1 hx with z | z <;> rcases List.mem_cons.1 hy with t | t
    · rw [z, t]
    · exact absurd (by rw [← z]; exact e) (h.1 y t)
    · exact absurd (by rw [← t]; exact e.symm) (h.1 x z)
    · exact ih h.2 x y z t e
/-- names here and there -/
theorem NmR_E (pw : E.1.Pairwise (fun a b => ¬ a.1 = b.1)) (hg : ∀ x, x ∈ E.1 → okN x.1 ∧ ((x.2.2.1 = 1 ∧ x.2.2.2 < vg) ∨ ((x.2.2.1 = 2 ∨ x.2.2.1 = 3) ∧ x.2.2.2 < nc))) (hl : ∀ x, x ∈ E.2.1 → x.2.2 < v) (hv : v ≤ 60) (hn : nc ≤ 40) (hvg : vg ≤ 60) (h0 : u = 0 → vg ≤ v) (hu : u < 42) : NmR E u (glD E vg) (VmD v) (tbE u E) := by
  refine ⟨by show vg ≤ 1000; omega, fun bs okb => ⟨fun i hi => ?_, fun hn' => ?_⟩⟩
  · obtain ⟨i1, ⟨i2, i3⟩, i4⟩ := hi
    have ie := List.getElem_mem i1
    have ig : (tbE u E).getD i e0E = (tbE u E)[i] := gD_get i1
    rcases List.mem_append.1 ie with z | z
    · obtain ⟨x, z1, z2⟩ := mem_g.1 z
      have iA : ¬ E.1.length ≤ i ∨ ∃ y, y ∈ E.2.1 ∧ lEn u y = (tbE u E).getD i e0E := by
        by_cases c : E.1.length ≤ i
        · right
          have h := gd_memR (l := E.1.map gEn) (l2 := E.2.1.reverse.map (lEn u)) (P := fun e => e ∈ E.2.1.reverse.map (lEn u))
          have := h.2 (fun e he => he) i (by rw [List.length_map]; exact c) i1
          exact mem_l.1 this
        · exact Or.inl c
      rcases iA with iA | ⟨y, y1, y2⟩
      · have nl : ∀ y, y ∈ E.2.1 → ¬ y.1 = bs := fun y hy eb => by
          obtain ⟨j, hj, ej⟩ := List.getElem_of_mem (mem_l.2 ⟨y, hy, rfl⟩ : lEn u y ∈ E.2.1.reverse.map (lEn u))
          have g2 : (tbE u E).getD ((E.1.map gEn).length + j) e0E = lEn u y := by
            unfold tbE
            rw [gD_ap (by omega), Nat.add_sub_cancel_left, gD_get hj, ej]
          have := i4 ((E.1.map gEn).length + j) (by rw [List.length_map]; omega) (by unfold tbE; rw [List.length_append]; omega)
          rw [g2] at this
          exact this ⟨eb, rfl⟩
        have xb : x.1 = bs := by rw [ig, ← z2] at i2; exact i2
        rw [ig, ← z2]
        rcases fd_cs E bs with ⟨y, y1, y2, _⟩ | ⟨_, x', y1, y2, _, y4, y5⟩ | ⟨_, y2, _⟩
        · exact absurd y2 (nl y y1)
        · have ex : x' = x := pw_inj pw x' x y1 z1 (y2.trans xb.symm)
          subst ex
          obtain ⟨_, k⟩ := hg x' z1
          rcases k with ⟨k1, k2⟩ | ⟨k1, k2⟩
          · have eg : gEn x' = (x'.1, 0, 0, x'.2.2.2, false) := by unfold gEn; rw [k1, if_pos rfl]
            rw [eg]
            refine ⟨⟨by show 0 ≤ 3; omega, by show 0 < 42; omega⟩, fun _ => ⟨y4.trans k1, fun e => ?_, fun _ => k2⟩, fun e => absurd e (by show ¬ 0 = 3; decide), fun e => absurd e (by show ¬ 0 = 1; decide), fun e => absurd e (by show ¬ 0 = 2; decide)⟩
            have e' : u = 0 := e.symm
            have := h0 e'
            exact ⟨by show x'.2.2.2 < 200; omega, x'.2.2.2, by omega, rfl⟩
          · rcases k1 with k1 | k1
            · have eg : gEn x' = (x'.1, 1, 0, x'.2.2.2 + 1, false) := by unfold gEn; rw [k1, if_neg (by decide)]
              rw [eg]
              refine ⟨⟨by show 1 ≤ 3; omega, by show 0 < 42; omega⟩, fun e => absurd e (by show ¬ 1 = 0; decide), fun e => absurd e (by show ¬ 1 = 3; decide), fun _ => ⟨y4.trans k1, by show x'.2.2.2 + 1 < 41; omega, by rw [y5], ?_⟩, fun e => absurd e (by show ¬ 1 = 2; decide)⟩
              exact ⟨x', z1, k1, rfl, by rw [y5]⟩
            · have eg : gEn x' = (x'.1, 2, 0, x'.2.2.2 + 1, false) := by unfold gEn; rw [k1, if_neg (by decide)]
              rw [eg]
              exact ⟨⟨by show 2 ≤ 3; omega, by show 0 < 42; omega⟩, fun e => absurd e (by show ¬ 2 = 0; decide), fun e => absurd e (by show ¬ 2 = 3; decide), fun e => absurd e (by show ¬ 2 = 1; decide), fun _ => ⟨y4.trans k1, by show x'.2.2.2 + 1 < 41; omega, by rw [y5]⟩⟩
        · exact absurd xb (y2 x z1)
      · rw [← y2] at i2 ⊢
        have f1 : (fd E bs).1 = 1 := by
          rcases fd_cs E bs with ⟨_, _, _, t⟩ | ⟨t, _⟩ | ⟨t, _⟩
          · exact t
          · exact absurd i2 (t y y1)
          · exact absurd i2 (t y y1)
        have := hl y y1
        exact ⟨⟨by show 0 ≤ 3; omega, hu⟩, fun _ => ⟨f1, fun _ => ⟨by show y.2.2 < 200; omega, y.2.2, this, rfl⟩, fun e => absurd rfl e⟩, fun e => absurd e (by show ¬ 0 = 3; decide), fun e => absurd e (by show ¬ 0 = 1; decide), fun e => absurd e (by show ¬ 0 = 2; decide)⟩
    · obtain ⟨y, y1, y2⟩ := mem_l.1 z
      rw [ig, ← y2] at i2
      rw [ig, ← y2]
      have f1 : (fd E bs).1 = 1 := by
        rcases fd_cs E bs with ⟨_, _, _, t⟩ | ⟨t, _⟩ | ⟨t, _⟩
        · exact t
        · exact absurd i2 (t y y1)
        · exact absurd i2 (t y y1)
      have := hl y y1
      exact ⟨⟨by show 0 ≤ 3; omega, hu⟩, fun _ => ⟨f1, fun _ => ⟨by show y.2.2 < 200; omega, y.2.2, this, rfl⟩, fun e => absurd rfl e⟩, fun e => absurd e (by show ¬ 0 = 3; decide), fun e => absurd e (by show ¬ 0 = 1; decide), fun e => absurd e (by show ¬ 0 = 2; decide)⟩
  · have hm := (gd_mem (l := tbE u E) (P := fun e => ¬ (e.1 = bs ∧ e.2.2.2.2 = false))).1 hn'
    rcases fd_cs E bs with ⟨x, y1, y2, _⟩ | ⟨_, x, y1, y2, _⟩ | ⟨_, _, y3⟩
    · exact absurd ⟨y2, rfl⟩ (hm (lEn u x) (List.mem_append_right _ (mem_l.2 ⟨x, y1, rfl⟩)))
    · exact absurd ⟨y2, rfl⟩ (hm (gEn x) (List.mem_append_left _ (mem_g.2 ⟨x, y1, rfl⟩)))
    · exact y3
theorem PcE_E : PcE E (PcD E) := fun bs okb hf => by
  rcases fd_cs E bs with ⟨_, _, _, t⟩ | ⟨_, x, y1, y2, _, y4, y5⟩ | ⟨_, _, t⟩
  · omega
  · exact ⟨x, y1, by rw [← y4]; exact hf, by rw [y5], by rw [y5]⟩
  · omega
theorem tbE_3 : ∀ i, i < (tbE u E).length → (∀ x, x ∈ E.1 → x.2.2.1 ≤ 3) → ¬ ((tbE u E).getD i e0E).2.1 = 3 := by
  intro i hi hk
  refine (gd_mem (l := tbE u E) (P := fun e => ¬ e.2.1 = 3)).2 (fun e he => ?_) i hi
  rcases List.mem_append.1 he with z | z
  · obtain ⟨x, z1, z2⟩ := mem_g.1 z
    have := hk x z1
    rw [← z2]
    show ¬ x.2.2.1 - 1 = 3
    omega
  · obtain ⟨x, z1, z2⟩ := mem_l.1 z
    rw [← z2]
    show ¬ 0 = 3
    decide
end DYA
