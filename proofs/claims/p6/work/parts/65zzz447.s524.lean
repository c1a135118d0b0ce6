/-! The class: declarations: rows of variables are read. -/
section DYB
variable {σ σ' σ0 τ τ' τ0 : CS} {L L2 : LV} {b : Bool} {T : Nat → Int32} {n q q' q0 u al o v mk mk' p sz sz' szB nc nc0 sz0 mk0 a1 a2 m kk f w st w' st' r0 c vg vg' vg0 N : Nat} {y qh : Int32} {l l' cs cs' : List Int32} {tb tb' es : List Ent} {E E' E0 E1 : En} {gl : Nat × (Nat → Nat → Prop)} {Vm : Nat → Prop} {bt : BT} {lo : Option Nat} {α β : Type} {S : α → Int32 → CS → Prop} {x : Option α} {C : Prop} {bs : List Int32}
/-- variables were told besides -/
def DxR (u : Nat) (E0 E : En) : Prop := E.2.2 = E0.2.2 ∧ (¬ u = 0 → E.1 = E0.1) ∧ (∀ x, x ∈ E.1 → x ∈ E0.1 ∨ x.2.2.1 = 1) ∧ ∀ x, x ∈ E0.1 → x ∈ E.1
theorem DxR_r (u : Nat) (E : En) : DxR u E E := ⟨rfl, fun _ => rfl, fun _ h => Or.inl h, fun _ h => h⟩
theorem DxR_t (a : DxR u E0 E1) (d : DxR u E1 E) : DxR u E0 E := ⟨d.1.trans a.1, fun h => (d.2.1 h).trans (a.2.1 h), fun x hx => (d.2.2.1 x hx).elim (fun z => a.2.2.1 x z) Or.inr, fun x hx => d.2.2.2 x (a.2.2.2 x hx)⟩
/-- a local is told -/
theorem gl_any {k : DV → Option (Option β)} {y : Option β} (de : DE E u vg nc v) (hu : ¬ u = 0) (ok : tkK T n q = 26 → okN (tkS T n q)) (h : gTl T n E q v bt k = some y) : (¬ NmG T n (tbE u E) E.1.length q v ∧ y = none) ∨ (NmG T n (tbE u E) E.1.length q v ∧ ∃ E' b', tbE u E' = tbE u E ++ [(tkS T n q, 0, u, v, false)] ∧ DE E' u vg nc (v + 1) ∧ DxR u E E' ∧ bt.1 ≤ b'.1 ∧ k (tkN T n q, E', v + 1, b') = some y) := by
  obtain ⟨⟨d1, d2, d2'⟩, ⟨d3, d4, d5, d6⟩, d7, d8, d9⟩ := de
  rcases gTl_any h with ⟨w1, w2⟩ | ⟨⟨⟨w1, w2, w3⟩, w4⟩, w5⟩
  · exact Or.inl ⟨fun z => w1 ⟨⟨z.1, told_1.1 z.2.1, z.2.2.1⟩, z.2.2.2⟩, w2⟩
  · refine Or.inr ⟨⟨w1, told_1.2 w2, w3, w4⟩, eTl T n E q v bt, bTl T n E q v bt, ?_, ⟨⟨d1, fun e => absurd e hu, fun _ => ?_⟩, ⟨d3, d4, d5, by omega⟩, d7, d8, fun x hx => ?_⟩, ⟨rfl, fun _ => rfl, fun _ h => Or.inl h, fun _ h => h⟩, Nat.le_refl _, w5⟩
    · show E.1.map gEn ++ ((tkS T n q, bt.2.1, v) :: E.2.1).reverse.map (lEn u) = (E.1.map gEn ++ E.2.1.reverse.map (lEn u)) ++ [(tkS T n q, 0, u, v, false)]
      rw [List.reverse_cons, List.map_append, List.append_assoc]
      rfl
    · show E.2.1.length + 1 = v + 1
      rw [d2' hu]
    · rcases List.mem_cons.1 (show x ∈ (tkS T n q, bt.2.1, v) :: E.2.1 from hx) with z | z
      · rw [z]
        exact ⟨ok w1, by show v < v + 1; omega⟩
      · exact ⟨(d9 x z).1, by have := (d9 x z).2; omega⟩
/-- a global is told -/
theorem ge_any {k : DV → Option (Option β)} {y : Option β} (de : DE E 0 vg nc v) (ok : tkK T n q = 26 → okN (tkS T n q)) (h : gTe T n E q v bt k = some y) : (¬ NmG T n (tbE 0 E) 0 q v ∧ y = none) ∨ (NmG T n (tbE 0 E) 0 q v ∧ ∃ E' b', tbE 0 E' = tbE 0 E ++ [(tkS T n q, 0, 0, v, false)] ∧ DE E' 0 (v + 1) nc (v + 1) ∧ DxR 0 E E' ∧ bt.1 ≤ b'.1 ∧ k (tkN T n q, E', v + 1, b') = some y) := by
  obtain ⟨⟨d1, d2, d2'⟩, ⟨d3, d4, d5, d6⟩, d7, d8, d9⟩ := de
  obtain ⟨e21, evg⟩ := d2 rfl
  have hk : ∀ x, x ∈ E.1 → ¬ x.2.2.1 = 0 := fun x hx => by have := (d8 x hx).2; omega
  have t0 := told_0 (u := 0) (bs := tkS T n q) e21 hk
  rcases gTe_any h with ⟨w1, w2⟩ | ⟨⟨⟨w1, w2, w3⟩, w4⟩, w5⟩
  · exact Or.inl ⟨fun z => w1 ⟨⟨z.1, t0.1 z.2.1, z.2.2.1⟩, z.2.2.2⟩, w2⟩
  · have nn : ∀ x, x ∈ E.1 → ¬ x.1 = tkS T n q := by
      rcases fd_cs E (tkS T n q) with ⟨_, _, _, t⟩ | ⟨_, x, y1, _, _, y4, _⟩ | ⟨_, t, _⟩
      · omega
      · exact absurd (y4.symm.trans w2) (hk x y1)
      · exact t
    refine Or.inr ⟨⟨w1, t0.2 w2, w3, w4⟩, eTe T n E q v bt, bTl T n E q v bt, ?_, ⟨⟨d1, fun _ => ⟨e21, rfl⟩, fun e => absurd rfl e⟩, ⟨?_, by omega, d5, by omega⟩, ?_, fun x hx => ?_, fun x hx => ?_⟩, ⟨rfl, fun e => absurd rfl e, fun x hx => ?_, fun x hx => List.mem_append_left _ hx⟩, Nat.le_refl _, w5⟩
    · show (E.1 ++ [(tkS T n q, bt.2.1, 1, v)]).map gEn ++ E.2.1.reverse.map (lEn 0) = (E.1.map gEn ++ E.2.1.reverse.map (lEn 0)) ++ [(tkS T n q, 0, 0, v, false)]
      rw [e21, List.map_append]
      show _ ++ [] = (_ ++ []) ++ _
      rw [List.append_nil, List.append_nil]
      rfl
    · show (E.1 ++ [(tkS T n q, bt.2.1, 1, v)]).length = v + 1 + nc
      rw [List.length_append, d3, evg]
      show v + nc + 1 = _
      omega
    · show (E.1 ++ [(tkS T n q, bt.2.1, 1, v)]).Pairwise _
      rw [List.pairwise_append]
      exact ⟨d7, List.pairwise_singleton _ _, fun a ha c hc => by rw [List.mem_singleton.1 hc]; exact nn a ha⟩
    · rcases List.mem_append.1 (show x ∈ E.1 ++ [(tkS T n q, bt.2.1, 1, v)] from hx) with z | z
      · exact ⟨(d8 x z).1, by have := (d8 x z).2; omega⟩
      · rw [List.mem_singleton.1 z]
        exact ⟨ok w1, Or.inl ⟨rfl, by show v < v + 1; omega⟩⟩
    · rw [show (eTe T n E q v bt).2.1 = [] from e21] at hx
      exact absurd hx List.not_mem_nil
    · rcases List.mem_append.1 (show x ∈ E.1 ++ [(tkS T n q, bt.2.1, 1, v)] from hx) with z | z
      · exact Or.inl z
      · rw [List.mem_singleton.1 z]
        exact Or.inr rfl
/-- where the names begin that a new one must differ from -/
def r0U (u : Nat) (E : En) : Nat := if u = 0 then 0 else E.1.length
theorem gv_any {k : DV → Option (Option β)} {y : Option β} (de : DE E u vg nc v) (ok : tkK T n q = 26 → okN (tkS T n q)) (h : (if E.2.2.2.1 = 0 then gTe T n E q v bt else gTl T n E q v bt) k = some y) : (¬ NmG T n (tbE u E) (r0U u E) q v ∧ y = none) ∨ (NmG T n (tbE u E) (r0U u E) q v ∧ ∃ E' vg' b', tbE u E' = tbE u E ++ [(tkS T n q, 0, u, v, false)] ∧ DE E' u vg' nc (v + 1) ∧ (DxR u E E' ∧ (¬ u = 0 → vg' = vg)) ∧ bt.1 ≤ b'.1 ∧ k (tkN T n q, E', v + 1, b') = some y) := by
  have d1 := de.1.1
  unfold r0U
  by_cases e : u = 0
  · subst e
    rw [if_pos d1] at h
    rw [if_pos rfl]
    rcases ge_any de ok h with z | ⟨z1, E', b', z2, z3, z4, z5⟩
    · exact Or.inl z
    · exact Or.inr ⟨z1, E', v + 1, b', z2, z3, ⟨z4, fun e => absurd rfl e⟩, z5⟩
  · rw [if_neg (by rw [d1]; exact e)] at h
    rw [if_neg e]
    rcases gl_any de e ok h with z | ⟨z1, E', b', z2, z3, z4, z5⟩
    · exact Or.inl z
    · exact Or.inr ⟨z1, E', vg, b', z2, z3, ⟨z4, fun _ => rfl⟩, z5⟩
theorem r0U_d (h : DxR u E E') : r0U u E' = r0U u E := by
  unfold r0U
  by_cases e : u = 0
  · rw [if_pos e, if_pos e]
  · rw [if_neg e, if_neg e, h.2.1 e]
theorem r0U_le : r0U u E ≤ (tbE u E).length := by
  rw [tbE_l]
  unfold r0U
  by_cases e : u = 0
  · rw [if_pos e]; omega
  · rw [if_neg e]; omega
theorem DE_l (de : DE E u vg nc v) : v < 60 → (tbE u E).length < 256 := by
  intro hv
  obtain ⟨⟨d1, d2, d2'⟩, ⟨d3, d4, d5, d6⟩, _⟩ := de
  rw [tbE_l]
  by_cases e : u = 0
  · rw [(d2 e).1]
    show E.1.length + 0 < 256
    omega
  · rw [d2' e]
    omega
/-- behind a row of variables -/
def VrS (T : Nat → Int32) (n : Nat) (b : Bool) (u al o mk N st : Nat) (lo : Option Nat) (qh : Int32) (E0 : En) (vg0 nc q0 v0 : Nat) (t : DV) (τ : CS) : Prop := ∃ vg', QS T n b u al (tbE u t.2.1) o t.1 t.2.2.1 mk 0 N τ ∧ ZF b u t.2.2.1 st lo qh τ ∧ DE t.2.1 u vg' nc t.2.2.1 ∧ (DxR u E0 t.2.1 ∧ (¬ u = 0 → vg' = vg0)) ∧ q0 < t.1 ∧ v0 < t.2.2.1
theorem tk_ok (h : LxQ T n q σ) : tkK T n q = 26 → okN (tkS T n q) := fun k => (h.2.2.2.2.2.2.2.2 k).2
theorem vr_nm {q0 v0 : Nat} (hu : u < 42) : ∀ (f : Nat) (E : En) (q v : Nat) (bt : BT) (x : Option DV), GVr T n f E q v bt = some x → ∀ (vg a1 a2 : Nat) (L2 : LV) (y1 : Int32) (τ : CS), Zy T n b u al σ0 nc0 sz0 mk0 a1 a2 (tbE u E) o q v mk v st lo qh N [] τ → DE E u vg nc v → (DxR u E0 E ∧ (¬ u = 0 → vg = vg0)) → q0 ≤ q → v0 ≤ v → y1 = nI (r0U u E) → L2.1 1 = y1 → uN (L2.1 2) ≤ v → Tm (fun k => ox (f_X5_tellVariable k 0 (lI lZ 1 y1) τ) (fun r => f_X5_variables k 1 L2 r.2.1)) (ZPo b u nc0 sz0 mk0 x (fun t _ τ' => VrS T n b u al o mk N st lo qh E0 vg0 nc q0 v0 t τ') σ0 a1 a2)
  | 0, E, q, v, bt, x, hG => by cases hG
  | f + 1, E, q, v, bt, x, hG => by
    intro vg a1 a2 L2 y1 τ s0 de dx hq0 hv0 ey e1 e2
    rw [GVr] at hG
    have lx := s0.1.1.1
    have qn : q ≤ n := lx.2.2.2.1
    have tb1 := tkN_b T n q qn
    have d60 : v ≤ 60 := de.2.1.2.2.2
    rcases gv_any de (tk_ok lx) hG with ⟨w1, w2⟩ | ⟨w1, E', vg', b', w2, w3, ⟨w4, w4'⟩, wb, w5⟩
    · exact zt_tv (C := False) s0 hu (DE_l de) (by omega) ey r0U_le (Or.inl ⟨w1, w2⟩) (fun _ _ _ _ c _ _ => c.elim)
    have g1 := tb1.2.2.2 (by rw [w1.1]; decide)
    refine zt_tv (C := True) s0 hu (DE_l de) (by omega) ey r0U_le (Or.inr ⟨w1, trivial⟩) (fun τ1 ret1 n1 n2 _ s1 zk1 => ?_)
    rw [← w2] at s1
    show Tm (fun k => f_X5_variables k 1 L2 τ1) _
    have lx1 := s1.1.1.1
    have qn1 : tkN T n q ≤ n := lx1.2.2.2.1
    have tb2 := tkN_b T n (tkN T n q) qn1
    refine Tm_suc (fun k => by rw [f_X5_variables]) ?_
    refine Tm_no (by rw [u_ltn (by decide) (by omega)]; show ¬ 32768 < uN (L2.1 2); omega) ?_
    by_cases k12 : tkK T n (tkN T n q) = 12
    · rw [if_pos k12] at w5
      refine Tm_yes ((lx_k (kk := 12) s1.1.1 (by decide)).2 k12) ?_
      have g2 := tb2.2.2.2 (by rw [k12]; decide)
      rcases pT_any w5 with ⟨z1, z2⟩ | ⟨z1, z2⟩
      · exact zt_adv (C := False) s1 (Or.inl ⟨z1, z2⟩) (fun _ _ _ _ c _ _ => c.elim)
      · refine zt_adv (C := True) s1 (Or.inr ⟨z1, trivial⟩) (fun τ2 ret2 n3 n4 _ s2 xk2 => ?_)
        have l2 : uN ((lI L2 2 (L2.1 2 + 1)).1 2) ≤ v + 1 := by
          show uN (L2.1 2 + 1) ≤ v + 1
          rw [u_inc (by omega)]
          omega
        rw [e1]
        exact vr_nm hu f E' (tkN T n (tkN T n q)) (v + 1) b' x z2 vg' _ _ (lI L2 2 (L2.1 2 + 1)) y1 τ2 s2 w3 ⟨DxR_t dx.1 w4, fun e => (w4' e).trans (dx.2 e)⟩ (by omega) (by omega) (by rw [r0U_d w4]; exact ey) e1 l2
    · rw [if_neg k12] at w5
      refine Tm_no (fun z => k12 ((lx_k (kk := 12) s1.1.1 (by decide)).1 z)) ?_
      refine Tm_suc (fun k => by rw [f_X5_variables]) ?_
      rcases pW_any w5 with ⟨z1, z2⟩ | ⟨z1, z2⟩
      · exact zt_expect (kk := 13) (C := False) s1 (by decide) rfl (Or.inl ⟨z1, z2⟩) (fun _ _ _ _ c _ _ => c.elim)
      · refine zt_expect (kk := 13) (C := True) s1 (by decide) rfl (Or.inr ⟨z1, trivial⟩) (fun τ2 ret2 n3 n4 _ s2 xk2 => ?_)
        obtain rfl := Option.some.inj z2
        exact Tm_some (Zfin s2 ⟨vg', s2.1.1, s2.2.2, w3, ⟨DxR_t dx.1 w4, fun e => (w4' e).trans (dx.2 e)⟩, by show q0 < tkN T n (tkN T n q); omega, by show v0 < v + 1; omega⟩)
/-- var NAME { , NAME } ; -/
theorem c_vars {x : Option DV} (hu : u < 42) (h : QS T n b u al (tbE u E) o q v mk 0 N τ) (zf : ZF b u v st lo qh τ) (de : DE E u vg nc v) (l1 : L.1 1 = nI (r0U u E)) (hG : pT T n q (fun q1 => GVr T n f E q1 v bt) = some x) : Tm (fun k => f_X5_variables k 0 L τ) (ZPo b u (tbE u E).length N mk x (fun t _ τ' => VrS T n b u al o mk N st lo qh E vg nc q v t τ') τ 0 0) := by
  have s0 := Zy_0 h zf
  have qn : q ≤ n := h.1.2.2.2.1
  have tb1 := tkN_b T n q qn
  refine Tm_suc (fun k => by rw [f_X5_variables]) ?_
  rcases pT_any hG with ⟨z1, z2⟩ | ⟨z1, z2⟩
  · exact zt_adv (C := False) s0 (Or.inl ⟨z1, z2⟩) (fun _ _ _ _ c _ _ => c.elim)
  · refine zt_adv (C := True) s0 (Or.inr ⟨z1, trivial⟩) (fun τ2 ret2 n3 n4 _ s2 xk2 => ?_)
    exact vr_nm hu f E _ v bt x z2 vg _ _ (lI L 2 0) (L.1 1) τ2 s2 de ⟨DxR_r u E, fun _ => rfl⟩ tb1.1 (Nat.le_refl _) l1 rfl (Nat.zero_le _)
end DYB
