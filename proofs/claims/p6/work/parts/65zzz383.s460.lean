/-! The class: names of an iter are told. -/
section CVS
variable {σ σ' σ0 τ τ' : CS} {L : LV} {b : Bool} {T : Nat → Int32} {n q q' u al o v mk p sz szB nc0 sz0 mk0 a1 a2 m kk f e t nc r0 c g : Nat} {y w : Int32} {l l' cs cs' : List Int32} {tb tb' : List Ent} {α : Type} {S : α → Int32 → CS → Prop} {x : Option α} {C : Prop} {E : En} {gl : Nat × (Nat → Nat → Prop)} {Vm : Nat → Prop} {bt : BT}
/-- a name may be told here -/
def NmG (T : Nat → Int32) (n : Nat) (tb : List Ent) (r0 q v : Nat) : Prop := tkK T n q = 26 ∧ (∀ j, r0 ≤ j → j < tb.length → ¬ (tb.getD j e0E).1 = tkS T n q) ∧ ¬ v = 60 ∧ ¬ tkK T n (tkN T n q) = 0
theorem st_name (h : Sy T n b u al σ0 nc0 sz0 mk0 a1 a2 tb o q v mk p szB cs τ) (hu : u < 42) (hl : v < 60 → tb.length < 256) (hp : p ≤ 1000) (l1 : L.1 1 = nI r0) (hr : r0 ≤ tb.length) (l3 : L.1 3 = 0) (l4 : L.1 4 = 1) (l5 : uN (L.1 5) ≤ 60) (hx : (¬ NmG T n tb r0 q v ∧ x = none) ∨ (NmG T n tb r0 q v ∧ C)) (cont : ∀ (L' : LV) (τ' : CS) (m1 m2 : Nat), C → tkK T n q = 26 → L'.1 1 = L.1 1 → L'.1 2 = L.1 2 → L'.1 3 = 0 → L'.1 5 = L.1 5 → Sy T n b u al σ0 nc0 sz0 mk0 (a1 + m1) (a2 + m2) (tb ++ [(tkS T n q, 3, u, p, true)]) o (tkN T n q) (v + 1) mk (p + 1) szB cs τ' → Tm (fun k => if L'.1 2 = 0 then f_X5_iterNames k 11 L' τ' else if τ'.1 3702 = 16 then f_X5_iterNames k 12 (lI L' 100 1) τ' else f_X5_iterNames k 11 L' τ') (QPo b u nc0 sz0 mk0 x S σ0 (a1 + m1) (a2 + m2))) : Tm (fun k => f_X5_iterNames k 2 L τ) (QPo b u nc0 sz0 mk0 x S σ0 a1 a2) := by
  have e3 : τ.1 4003 = nI u := h.1.1.2.2.2.2.1.2.1
  have i42 : ¬ (nI u < 0 ∨ 42 ≤ (nI u).toNatClampNeg) := u_in (by rw [u_n (by omega)]; omega) (by decide)
  refine Tm_suc (fun k => by rw [f_X5_iterNames]) ?_
  refine Tm_no (by rw [u_ltn (by decide) (by omega)]; show ¬ 60 < uN (L.1 5); omega) ?_
  refine Tm_no (by rw [l4]; decide) ?_
  have hx2 : (¬ (tkK T n q = 26 ∧ (∀ j, r0 ≤ j → j < tb.length → ¬ (tb.getD j e0E).1 = tkS T n q) ∧ ¬ v = 60) ∧ x = none) ∨ ((tkK T n q = 26 ∧ (∀ j, r0 ≤ j → j < tb.length → ¬ (tb.getD j e0E).1 = tkS T n q) ∧ ¬ v = 60) ∧ (tkK T n q = 26 ∧ (¬ v = 60) ∧ ((tkK T n (tkN T n q) = 0 ∧ x = none) ∨ (¬ tkK T n (tkN T n q) = 0 ∧ C)))) := by
    by_cases z : tkK T n q = 26 ∧ (∀ j, r0 ≤ j → j < tb.length → ¬ (tb.getD j e0E).1 = tkS T n q) ∧ ¬ v = 60
    · refine Or.inr ⟨z, z.1, z.2.2, ?_⟩
      rcases hx with ⟨w1, w2⟩ | ⟨w1, w2⟩
      · refine Or.inl ⟨?_, w2⟩
        by_cases z2 : tkK T n (tkN T n q) = 0
        · exact z2
        · exact absurd ⟨z.1, z.2.1, z.2.2, z2⟩ w1
      · exact Or.inr ⟨w1.2.2.2, w2⟩
    · refine Or.inl ⟨z, ?_⟩
      rcases hx with ⟨w1, w2⟩ | ⟨w1, w2⟩
      · exact w2
      · exact absurd ⟨w1.1, w1.2.1, w1.2.2.1⟩ z
  refine st_chk h hu l1 hr hx2 (fun τ1 ret1 m1 m2 c1 s1 => ?_)
  obtain ⟨k26, v60, c1⟩ := c1
  have hl := hl (by have := h.1.1.2.2.2.2.2.2.1.2; omega)
  have e31 : τ1.1 4003 = nI u := s1.1.1.2.2.2.2.1.2.1
  refine Tm_oP (Sy_pp s1) ?_
  show Tm (fun k => if ¬ (τ1.1 4003 < 0 ∨ 42 ≤ (τ1.1 4003).toNatClampNeg) then _ else none) _
  rw [e31]
  refine Tm_chk i42 ?_
  refine Tm_yes l3 ?_
  refine Tm_suc (fun k => by rw [f_X5_iterNames]) ?_
  refine Tm_suc (fun k => by rw [f_X5_iterNames]) ?_
  refine Tm_chk i42 ?_
  refine Tm_yes l3 ?_
  show Tm (fun k => f_X5_iterNames k 7 _ (uA τ1 (pR17 b) (nI u).toNatClampNeg (τ1.2.2.1 (pR17 b) (nI u).toNatClampNeg + 0))) _
  rw [uA_self]
  refine Tm_suc (fun k => by rw [f_X5_iterNames]) ?_
  refine Tm_oP (Sy_pp s1) ?_
  refine Tm_op (c_newPassing (k0 := 1) s1 (by omega) rfl rfl) (fun r2 z2 => ?_)
  obtain ⟨er2, s2⟩ := z2
  refine Tm_suc (fun k => by rw [f_X5_iterNames]) ?_
  refine Tm_oP (Sy_pp s2) ?_
  refine Tm_yes l3 ?_
  refine Tm_suc (fun k => by rw [f_X5_iterNames]) ?_
  refine Tm_suc (fun k => by rw [f_X5_iterNames]) ?_
  have okn : okN (tkS T n q) := (s2.1.1.1.2.2.2.2.2.2.2.2 k26).2
  have ky := (s2.1.1.1.2.2.2.2.2.2.2.2 k26).1
  refine Tm_op (c_tell (bs := tkS T n q) (w0 := 3) (o0 := u) (s0 := p) s2.1.1.2.2.2.1 hl rfl okn ky.1 ky.2 rfl s2.1.1.2.2.2.2.1.2.1 er2) (fun r3 z3 => ?_)
  have nc := h.1.2.2.2.1
  have s3 := Sy_tb s2 z3 nc (by rw [List.length_append]; omega)
  refine Tm_oP (Sy_pp s3) (Tm_oP (Sy_pp s3) ?_)
  have e11 : r3.2.1 (fP b 11) - 1 = nI tb.length := by
    rw [s3.1.1.2.2.2.1.1, List.length_append]
    exact n_sub1 (by omega)
  rw [e11]
  refine Tm_chk (u_in (by rw [u_n (by omega)]; omega) (by decide)) ?_
  rw [n_cl (p := tb.length) (by omega), show vp_nar .boolean 1 = (1 : Int32) from rfl]
  have ho : TbQ b tb.length ((tb ++ [(tkS T n q, 3, u, p, false)]).set tb.length (tkS T n q, 3, u, p, true)) r3.2 (uA r3.2 (pR10 b) tb.length 1) := TbQ_hd (e1 := (tkS T n q, 3, u, p, false)) (hd := true) s3.1.1.2.2.2.1 (by rw [List.length_append]; show tb.length < tb.length + 1; omega) (Nat.le_refl _) gE_0
  have es : (tb ++ [(tkS T n q, 3, u, p, false)]).set tb.length (tkS T n q, 3, u, p, true) = tb ++ [(tkS T n q, 3, u, p, true)] := by
    rw [List.set_append_right _ _ (Nat.le_refl _), Nat.sub_self]; rfl
  rw [es] at ho
  have s4 := Sy_tb s3 ho nc (by rw [List.length_append]; omega)
  refine st_advY s4 c1 (fun τ5 r5 er c5 s5 => ?_)
  rw [er]
  exact cont _ τ5 _ _ c5 k26 rfl rfl l3 rfl s5
end CVS
