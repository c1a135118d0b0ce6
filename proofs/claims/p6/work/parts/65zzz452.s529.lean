/-! The class: between declarations; a unit is closed; what is around in its body. -/
section DYG
variable {σ σ' σ0 σ2 τ τ' τ0 : CS} {L L2 : LV} {b pr : Bool} {T : Nat → Int32} {n q q' q0 u al o v v0 mk mk' p sz nc a1 a2 m f w st r0 vg vg' N N0 N1 M j W np v' : Nat} {y qh x : Int32} {l l' cs cs' : List Int32} {tb tb' A B : List Ent} {E E' E0 E1 : En} {bt : BT} {lo : Option Nat} {md : Nat → Nat} {MD : Nat → Nat → Nat} {c c' : Ct} {g : PRG}
theorem cl_unit (h : QS T n b u al (A ++ B) o q v mk 0 N σ) (e16 : σ.2.2.1 (pR16 b) 0 = nI v0) (h60 : v0 ≤ 60) (hL : L.1 1 = nI A.length) : Tm (fun k => y_X5_closeUnit k 0 L σ) (fun r => QS T n b 0 2 A o q v0 mk 0 N r.2 ∧ DK b N σ r.2 ∧ r.2.2 = σ.2 ∧ ∀ j, ¬ (j = 4003 ∨ j = 4004 ∨ j = fP b 11) → r.2.1 j = σ.1 j) := by
  refine Tm_suc (fun k => by rw [y_X5_closeUnit]) ?_
  refine Tm_oB h.2.2.2.2.1.1 ?_
  refine Tm_suc (fun k => by rw [y_X5_closeUnit]) ?_
  refine Tm_some ?_
  rw [hL]
  have fn := fP_ns b
  have f9 := fP_19 b
  obtain ⟨h1, xk⟩ := QS_tb h (TbQ_tk h.2.2.2.1)
  have z := QS_ww (σ' := uI (uI (uI σ (fP b 11) (nI A.length)) 4003 0) 4004 2) (u' := 0) (al' := 2) (v' := v0) (p' := 0) h1 (fun j hj => by rw [uI_o (by omega), uI_o (by omega)]) rfl (fun _ _ => rfl) rfl (by rw [uI_o (by decide), uI_s]; rfl) (by rw [uI_s]; rfl) e16 h60 (by rw [uI_o (by omega), uI_o (by omega)]; exact h1.2.2.2.2.2.2.2)
  exact ⟨z.1, DK_t (DK_X xk) z.2 (Nat.le_refl _), rfl, fun j hj => by rw [uI_o (by omega), uI_o (by omega), uI_o (by omega)]⟩
/-- rows of units, as the code has them -/
def UTb (b : Bool) (nc : Nat) (c : Ct) (MD : Nat → Nat → Nat) (σ : CS) : Prop := ∀ i, i < nc → (σ.2.2.1 (pR13 b) (i + 1) = nI (tcE c (i + 1)) ∧ σ.2.2.1 (pR14 b) (i + 1) = nI (tcP c (i + 1)) ∧ σ.2.2.1 (pR18 b) (i + 1) = nI (tcF c (i + 1))) ∧ ∀ j, j < tcP c (i + 1) → (σ.2.2.1 (pR15 b) (i + 1) >>> ((2 * nI j) &&& 31)) &&& 3 = nI (MD i j) ∧ MD i j ≤ 2
theorem UTb_u (h : UTb b nc c MD σ) (hk : UnK b u σ τ) (hu : nc < u) : UTb b nc c MD τ := fun i hi => by
  obtain ⟨⟨z1, z2⟩, ⟨z3, z4⟩, z5⟩ := hk (i + 1) (by omega)
  obtain ⟨⟨y1, y2, y3⟩, y4⟩ := h i hi
  refine ⟨⟨z1.trans y1, z2.trans y2, z5.trans y3⟩, fun j hj => ?_⟩
  rw [z3]
  exact y4 j hj
/-- between declarations -/
def DSt (T : Nat → Int32) (n : Nat) (b : Bool) (N0 W K : Nat) (g : PRG) (σ : CS) : Prop := ∃ (c : Ct) (N vg : Nat), (QS T n b 0 2 (tbE 0 g.2.1) 0 g.1 g.2.2.2.2.2.1 0 0 N σ ∧ ZF b 0 g.2.2.2.2.2.1 g.2.2.2.2.2.2.2.1.1 none 0 σ ∧ DE g.2.1 0 vg g.2.2.2.1 g.2.2.2.2.2.1) ∧ (g.2.1.2.2.2.2.1 = true ∧ g.2.1.2.2.2.2.2.1 = true ∧ σ.1 (fP b 12) = nI g.2.2.2.1 ∧ σ.2.2.1 (pR18 b) 41 = 0) ∧ UTb b g.2.2.2.1 c g.2.2.1 σ ∧ PgT g.2.1 vg g.2.2.2.1 N0 W c ∧ (tcN c = N ∧ N0 ≤ N ∧ ∀ i, N0 ≤ i → i < N → cdr b σ i = tcC c i) ∧ (2 * N + 7 * (n - g.1) + 110 ≤ K ∧ 1 ≤ g.2.2.2.2.2.2.1.1 ∧ g.2.2.2.2.2.2.2.1.1 ≤ 400 ∧ n ≤ 10240 ∧ K ≤ 73728)
/-- params of the funcs, as the rows have them -/
theorem PrR_P (pg : PgU E vg nc N0 W c) (h8 : nc ≤ 40) (ut : UTb b nc c MD σ) : PrR b (glD E vg) σ := fun w np z => by
  obtain ⟨x, z1, z2, z3, z4⟩ := z
  obtain ⟨y1, y2⟩ := (pg.2.2.2 x z1).1 z2
  obtain ⟨a1, a2, _⟩ := pg.2.2.1 _ y1
  obtain ⟨⟨u1, u2, u3⟩, u4⟩ := ut _ y1
  rw [z3, z4]
  exact ⟨by omega, by omega, by rw [u2, a1]⟩
theorem PcR_P (pg : PgU E vg nc N0 W c) (h8 : nc ≤ 40) (ut : UTb b nc c MD σ) : PcR b (PcD E) MD σ := fun w np z => by
  obtain ⟨x, z1, z2, z3, z4⟩ := z
  obtain ⟨y1, y2⟩ := (pg.2.2.2 x z1).2 z2
  obtain ⟨a1, a2, _⟩ := pg.2.2.1 _ y1
  obtain ⟨⟨u1, u2, u3⟩, u4⟩ := ut _ y1
  rw [z3, z4]
  refine ⟨⟨by omega, by omega, by omega⟩, by rw [u2, a1], fun i hi => ?_⟩
  rw [Nat.add_sub_cancel]
  exact u4 i (by omega)
/-- what is around an exp of a unit -/
theorem EvX_P (de : DE E u vg nc v) (pg : PgU E vg nc N0 W c) (ut : UTb b nc c MD σ) (hu : u < 42) (hal : al ≤ 2) (e1 : E.2.2.2.2.1 = true ↔ al = 2) (e2 : E.2.2.2.2.2.1 = true ↔ 1 ≤ al) : EvX E b u al (glD E vg) (VmD v) (tbE u E) σ := by
  obtain ⟨⟨d1, d2, d2'⟩, ⟨d3, d4, d5, d6⟩, d7, d8, d9⟩ := de
  exact ⟨NmR_E d7 d8 (fun x hx => (d9 x hx).2) d6 d5 d4 (fun e => by rw [(d2 e).2]; exact Nat.le_refl _) hu, PrR_P pg d5 ut, ⟨hal, hu⟩, e1, e2⟩
theorem StX_P (de : DE E u vg nc v) (pg : PgU E vg nc N0 W c) (ut : UTb b nc c MD σ) (hu : u < 42) (e1 : E.2.2.2.2.1 = true) (e2 : E.2.2.2.2.2.1 = true) (n10 : n ≤ 10240) : StX n E b u 2 (glD E vg) (VmD v) (PcD E) MD (tbE u E) σ := by
  refine ⟨EvX_P de pg ut hu (Nat.le_refl _) ⟨fun _ => rfl, fun _ => e1⟩ ⟨fun _ => by decide, fun _ => e2⟩, PcR_P pg de.2.1.2.2.1 ut, PcE_E, fun i hi => tbE_3 i hi (fun x hx => ?_), n10⟩
  have := (de.2.2.2.1 x hx).2
  omega
/-- in a unit: its params are told, its code begins -/
theorem Un_in (pm : PmS T n b nc al mk N st qh E1 vg σ0 M E np md q v τ) (pg : PgT E0 vg nc N0 W c) (ut : UTb b nc c MD σ0) (eN : tcN c = N) (hN0 : N0 ≤ N) (hn : nc < 40) (hv' : np ≤ v' ∧ v' ≤ 60) {isF : Prop} {ρ : Nat} (hρ : ρ ≤ RK) (hr : ¬ isF → ρ ≤ 2) (eP : ∀ i, i < nc → E1.2.2.2.2.2.2 i = E0.2.2.2.2.2.2 i) (hx : ∀ x, x ∈ E1.1 → x ∈ E0.1 ∨ (x.2.2.2 = nc ∧ (x.2.2.1 = 2 → isF) ∧ (x.2.2.1 = 3 → ¬ isF))) (E' : En) (eE : E'.1 = E.1 ∧ E'.2.2.2.2.2.2 = E.2.2.2.2.2.2) (hk : UnK b (nc + 1) τ τ') (e13 : τ'.2.2.1 (pR13 b) (nc + 1) = τ.2.2.1 (pR13 b) (nc + 1) ∧ τ'.2.2.1 (pR14 b) (nc + 1) = τ.2.2.1 (pR14 b) (nc + 1) ∧ τ'.2.2.1 (pR15 b) (nc + 1) = τ.2.2.1 (pR15 b) (nc + 1)) (e18 : τ'.2.2.1 (pR18 b) (nc + 1) = nI v') : (TI noP noP (nc + 1) RK (unB c (nc + 1) np v' isF ρ) ∧ PgU E' vg (nc + 1) N0 W (unB c (nc + 1) np v' isF ρ) ∧ tcD (unB c (nc + 1) np v' isF ρ) N = some (nc + 1, 0, (bsl + v') :: Vl v', ρ)) ∧ UTb b (nc + 1) (unB c (nc + 1) np v' isF ρ) (fun p => if p = nc then md else MD p) τ' := by
  obtain ⟨⟨h1, h2, h3⟩, ⟨h4, h4'⟩, ⟨h5, h6, h7, h8, h9⟩, h10, ⟨g1, ⟨g2, g3, g4⟩, g5, g6⟩⟩ := pm
  have z := unB_t (E1 := E') (np := np) (F := v') (isF := isF) (ρ := ρ) pg hn (by omega) ⟨hv'.1, h4', hv'.2⟩ hρ hr (fun i hi => by rw [eE.2, g5 i (by omega), eP i hi]) (by rw [eE.2]; exact g6) (fun x hx' => hx x (by rw [eE.1, g1] at hx'; exact hx'))
  rw [eN] at z
  refine ⟨z, fun i hi => ?_⟩
  by_cases e : i = nc
  · subst e
    have us : tcE (unB c (i + 1) np v' isF ρ) (i + 1) = tcN c ∧ tcP (unB c (i + 1) np v' isF ρ) (i + 1) = np ∧ tcF (unB c (i + 1) np v' isF ρ) (i + 1) = v' := ⟨if_pos rfl, if_pos rfl, if_pos rfl⟩
    rw [us.1, us.2.1, us.2.2]
    refine ⟨⟨by rw [e13.1, h7, eN], by rw [e13.2.1, h8], e18⟩, fun j hj => ?_⟩
    rw [e13.2.2, h9, show (fun p => if p = i then md else MD p) i = md from if_pos rfl, md_get (by omega) (MdN_l h10 h4')]
    have y := h10.2 j hj
    rw [y.1]
    exact ⟨rfl, y.2⟩
  · have uo : tcE (unB c (nc + 1) np v' isF ρ) (i + 1) = tcE c (i + 1) ∧ tcP (unB c (nc + 1) np v' isF ρ) (i + 1) = tcP c (i + 1) ∧ tcF (unB c (nc + 1) np v' isF ρ) (i + 1) = tcF c (i + 1) := ⟨if_neg (by omega), if_neg (by omega), if_neg (by omega)⟩
    rw [uo.1, uo.2.1, uo.2.2, show (fun p => if p = nc then md else MD p) i = MD i from if_neg e]
    have ut2 := UTb_u (UTb_u ut h6 (by omega)) hk (by omega)
    exact ut2 i (by omega)
end DYG
