/-! The class: the head of a func or proc. -/
section DYD
variable {σ σ' σ0 σ2 τ τ' τ0 : CS} {L L2 : LV} {b pr : Bool} {T : Nat → Int32} {n q q' q0 u al o v mk mk' p sz sz' szB nc nc0 sz0 mk0 a1 a2 m kk f w st w' st' r0 c vg vg' vg0 N N0 kd : Nat} {y qh x : Int32} {l l' cs cs' : List Int32} {tb tb' es : List Ent} {E E' E0 E1 : En} {bt : BT} {lo : Option Nat} {bs : List Int32}
theorem opU_f {j : Nat} (h : ¬ j = fP b 19) : (opU b u x σ).1 j = σ.1 j := by
  unfold opU
  rw [uI_o h]
  rfl
theorem opU_19 : (opU b u x σ).1 (fP b 19) = 0 := uI_s
theorem pR_ne (b : Bool) : (¬ pR13 b = pR14 b ∧ ¬ pR13 b = pR15 b ∧ ¬ pR13 b = pR16 b ∧ ¬ pR13 b = pR17 b ∧ ¬ pR13 b = pR18 b ∧ ¬ pR14 b = pR15 b ∧ ¬ pR14 b = pR16 b ∧ ¬ pR14 b = pR17 b ∧ ¬ pR14 b = pR18 b) ∧ (¬ pR15 b = pR16 b ∧ ¬ pR15 b = pR17 b ∧ ¬ pR15 b = pR18 b ∧ ¬ pR16 b = pR17 b ∧ ¬ pR16 b = pR18 b ∧ ¬ pR17 b = pR18 b) := by cases b <;> decide
theorem opU_k {k : Nat} (h : ¬ (k = pR13 b ∨ k = pR14 b ∨ k = pR15 b ∨ k = pR16 b ∨ k = pR17 b ∨ k = pR18 b)) : (opU b u x σ).2.2.1 k = σ.2.2.1 k := by
  show (uA (uA (uA (uA (uA (uA σ (pR13 b) u x) (pR14 b) u 0) (pR15 b) u 0) (pR16 b) u 0) (pR17 b) u 0) (pR18 b) u 0).2.2.1 k = _
  rw [uA_k (by omega), uA_k (by omega), uA_k (by omega), uA_k (by omega), uA_k (by omega), uA_k (by omega)]
theorem opU_13 : (opU b u x σ).2.2.1 (pR13 b) = upd (σ.2.2.1 (pR13 b)) u x := by
  have p := pR_ne b
  show (uA (uA (uA (uA (uA (uA σ (pR13 b) u x) (pR14 b) u 0) (pR15 b) u 0) (pR16 b) u 0) (pR17 b) u 0) (pR18 b) u 0).2.2.1 _ = _
  rw [uA_k (by omega), uA_k (by omega), uA_k (by omega), uA_k (by omega), uA_k (by omega), uA_r]
theorem opU_14 : (opU b u x σ).2.2.1 (pR14 b) = upd (σ.2.2.1 (pR14 b)) u 0 := by
  have p := pR_ne b
  show (uA (uA (uA (uA (uA (uA σ (pR13 b) u x) (pR14 b) u 0) (pR15 b) u 0) (pR16 b) u 0) (pR17 b) u 0) (pR18 b) u 0).2.2.1 _ = _
  rw [uA_k (by omega), uA_k (by omega), uA_k (by omega), uA_k (by omega), uA_r, uA_k (by omega)]
theorem opU_15 : (opU b u x σ).2.2.1 (pR15 b) = upd (σ.2.2.1 (pR15 b)) u 0 := by
  have p := pR_ne b
  show (uA (uA (uA (uA (uA (uA σ (pR13 b) u x) (pR14 b) u 0) (pR15 b) u 0) (pR16 b) u 0) (pR17 b) u 0) (pR18 b) u 0).2.2.1 _ = _
  rw [uA_k (by omega), uA_k (by omega), uA_k (by omega), uA_r, uA_k (by omega), uA_k (by omega)]
theorem opU_16 : (opU b u x σ).2.2.1 (pR16 b) = upd (σ.2.2.1 (pR16 b)) u 0 := by
  have p := pR_ne b
  show (uA (uA (uA (uA (uA (uA σ (pR13 b) u x) (pR14 b) u 0) (pR15 b) u 0) (pR16 b) u 0) (pR17 b) u 0) (pR18 b) u 0).2.2.1 _ = _
  rw [uA_k (by omega), uA_k (by omega), uA_r, uA_k (by omega), uA_k (by omega), uA_k (by omega)]
theorem opU_18 : (opU b u x σ).2.2.1 (pR18 b) = upd (σ.2.2.1 (pR18 b)) u 0 := by
  have p := pR_ne b
  show (uA (uA (uA (uA (uA (uA σ (pR13 b) u x) (pR14 b) u 0) (pR15 b) u 0) (pR16 b) u 0) (pR17 b) u 0) (pR18 b) u 0).2.2.1 _ = _
  rw [uA_r, uA_k (by omega), uA_k (by omega), uA_k (by omega), uA_k (by omega), uA_k (by omega)]
theorem opU_2 : (opU b u x σ).2.1 = σ.2.1 ∧ (opU b u x σ).2.2.2 = σ.2.2.2 := ⟨rfl, rfl⟩
theorem fP_ns (b : Bool) : (¬ fP b 1 = fP b 12 ∧ ¬ fP b 1 = fP b 19 ∧ ¬ fP b 3 = fP b 12 ∧ ¬ fP b 3 = fP b 19 ∧ ¬ fP b 11 = fP b 12 ∧ ¬ fP b 11 = fP b 19 ∧ ¬ fP b 12 = fP b 19 ∧ ¬ fP b 4 = fP b 12 ∧ ¬ fP b 2 = fP b 12 ∧ ¬ fP b 2 = fP b 19) ∧ (¬ fP b 1 = fP b 4 ∧ ¬ fP b 3 = fP b 4 ∧ ¬ fP b 11 = fP b 4 ∧ ¬ fP b 12 = fP b 4 ∧ ¬ fP b 19 = fP b 4 ∧ ¬ fP b 2 = fP b 1 ∧ ¬ fP b 2 = fP b 3 ∧ ¬ fP b 2 = fP b 11 ∧ ¬ fP b 1 = fP b 3 ∧ ¬ fP b 1 = fP b 11) := by cases b <;> decide
theorem pR_13 (b : Bool) : (pR13 b = 69 ∧ pR14 b = 70 ∧ pR15 b = 71 ∧ pR16 b = 72 ∧ pR17 b = 73 ∧ pR18 b = 74 ∧ pR5 b = 44 ∧ pR6 b = 45 ∧ pR7 b = 46 ∧ pR8 b = 47 ∧ pR9 b = 48 ∧ pR10 b = 49) ∨ (pR13 b = 58 ∧ pR14 b = 59 ∧ pR15 b = 60 ∧ pR16 b = 61 ∧ pR17 b = 62 ∧ pR18 b = 63 ∧ pR5 b = 52 ∧ pR6 b = 53 ∧ pR7 b = 54 ∧ pR8 b = 55 ∧ pR9 b = 56 ∧ pR10 b = 57) := by cases b <;> decide
/-- a state that differs from another in the fields of a list and in rows of the program's units -/
theorem QS_ww {v' u' al' p' : Nat} (h : QS T n b u al tb o q v mk p N σ) (f1 : ∀ j, ¬ (j = 4003 ∨ j = 4004 ∨ j = fP b 2 ∨ j = fP b 4 ∨ j = fP b 12 ∨ j = fP b 19) → σ'.1 j = σ.1 j) (f2 : σ'.2.1 = σ.2.1) (f3 : ∀ k, ¬ (k = pR13 b ∨ k = pR14 b ∨ k = pR15 b ∨ k = pR16 b ∨ k = pR17 b ∨ k = pR18 b) → σ'.2.2.1 k = σ.2.2.1 k) (f4 : σ'.2.2.2 = σ.2.2.2) (e3 : σ'.1 4003 = nI u') (e4 : σ'.1 4004 = nI al') (e16 : σ'.2.2.1 (pR16 b) u' = nI v') (hv : v' ≤ 60) (e19 : σ'.1 (fP b 19) = nI p') (e41 : (σ'.2.2.1 (pR18 b) 41 = σ.2.2.1 (pR18 b) 41 ∧ σ'.2.2.1 (pR14 b) 41 = σ.2.2.1 (pR14 b) 41) := by exact ⟨rfl, rfl⟩) : QS T n b u' al' tb o q v' mk p' N σ' ∧ DK b N σ σ' := by
  obtain ⟨h1, h2, h3, h4, ⟨h5, h5', h5''⟩, ⟨h6, h6'⟩, ⟨h7, h7'⟩, h8⟩ := h
  have fn := fP_ns b
  have f9 := fP_19 b
  have pr := pR_13 b
  have eN : sN σ' = sN σ := by show σ'.2.2.2.2.1 = _; rw [f4]
  have eL : σ'.2.2.2.1 = σ.2.2.2.1 := by rw [f4]
  have eP : σ'.2.2.2.2.2.1 = σ.2.2.2.2.2.1 := by rw [f4]
  have eKd : sKd σ' = sKd σ := by show σ'.2.2.2.2.2.1.2.2.2.2 = _; rw [f4]
  have cd : ∀ c i, cdr c σ' i = cdr c σ i := fun c i => by
    show σ'.2.2.1 (pR0 (sKd σ' c)) i = _
    rw [eKd]
    rcases pR0_c (sKd σ c) with z | z
    · rw [f3 _ (by omega)]
    · rw [f3 _ (by omega)]
  refine ⟨⟨LxQ_s h1 (fun j h1 h2 => f1 j (by omega)) ⟨by rw [f2], by rw [f2]⟩ (f3 _ (by omega)) (by rw [eN]) (by rw [eL]), CdL_s h2 (f1 _ (by omega)) (by rw [eKd]) ⟨by rw [eN], by rw [eN]⟩, ⟨by rw [f1 _ (by omega)]; exact h3.1, by rw [eN]; exact h3.2⟩, TbR_s h4 (f1 _ (by omega)) (by rw [eL]) (by rw [eL]) (f3 _ (by omega)) (f3 _ (by omega)) (f3 _ (by omega)) (f3 _ (by omega)), ⟨by show σ'.2.2.2.2.2.1.2.2.2.1 = _; rw [f4]; exact h5, e3, e4⟩, ⟨by rw [f1 _ (by omega)]; exact h6, h6'⟩, ⟨e16, hv⟩, e19⟩, ?_⟩
  refine ⟨⟨fun j hj => f1 j (by omega), fun j _ => by rw [f2]⟩, ⟨fun k hk => f3 k (fun z => hk (by unfold pRw; omega)), fun k _ => by rw [eN], fun k _ => by rw [eL]⟩, ⟨⟨?_, ?_, ?_, ?_⟩, fun c _ => by rw [eKd], by rw [f4]⟩, fun i _ => ⟨cd b i, cd (!b) i⟩, (CdL_s (σ' := σ') h2 (f1 _ (by omega)) (by rw [eKd]) ⟨by rw [eN], by rw [eN]⟩).2, by rw [eN]; exact h3.2.2, Or.inl (by rw [eN]), e41⟩
  · show σ'.2.2.2.2.2.1.1 = _; rw [f4]
  · show σ'.2.2.2.2.2.1.2.1 = _; rw [f4]
  · show σ'.2.2.2.2.2.1.2.2.1 = _; rw [f4]
  · show σ'.2.2.2.2.2.1.2.2.2.1 = _; rw [f4]
/-- rows of the other units stay -/
def UnK (b : Bool) (u : Nat) (τ τ' : CS) : Prop := ∀ i, ¬ i = u → (τ'.2.2.1 (pR13 b) i = τ.2.2.1 (pR13 b) i ∧ τ'.2.2.1 (pR14 b) i = τ.2.2.1 (pR14 b) i) ∧ (τ'.2.2.1 (pR15 b) i = τ.2.2.1 (pR15 b) i ∧ τ'.2.2.1 (pR16 b) i = τ.2.2.1 (pR16 b) i) ∧ τ'.2.2.1 (pR18 b) i = τ.2.2.1 (pR18 b) i
theorem UnK_t (a : UnK b u σ τ) (d : UnK b u τ τ') : UnK b u σ τ' := fun i hi => by
  obtain ⟨⟨a1, a2⟩, ⟨a3, a4⟩, a5⟩ := a i hi
  obtain ⟨⟨d1, d2⟩, ⟨d3, d4⟩, d5⟩ := d i hi
  exact ⟨⟨d1.trans a1, d2.trans a2⟩, ⟨d3.trans a3, d4.trans a4⟩, d5.trans a5⟩
theorem ZK_13 (h : ZK b u nc sz mk σ σ') : σ'.2.2.1 (pR13 b) = σ.2.2.1 (pR13 b) ∧ σ'.2.2.1 (pR14 b) = σ.2.2.1 (pR14 b) ∧ σ'.2.2.1 (pR15 b) = σ.2.2.1 (pR15 b) := by
  have pr := pR_13 b
  exact ⟨h.2.1.1 _ (by omega), h.2.1.1 _ (by omega), h.2.1.1 _ (by omega)⟩
theorem UnK_Z (h : ZK b u nc sz mk σ σ') : UnK b u σ σ' := fun i hi => by
  obtain ⟨e1, e2, e3⟩ := ZK_13 h
  have z := h.2.2.2.1 i hi
  exact ⟨⟨by rw [e1], by rw [e2]⟩, ⟨by rw [e3], z.1⟩, z.2⟩
theorem ZK_12 (h : ZK b u nc sz mk σ σ') : σ'.1 (fP b 12) = σ.1 (fP b 12) := by
  have fn := fP_ns b
  have f9 := fP_19 b
  exact h.1.1 _ (by omega)
/-- the head is as it should be -/
def TUC (T : Nat → Int32) (n : Nat) (E : En) (c q : Nat) : Prop := ¬ tkK T n (tkN T n q) = 0 ∧ nmC T n E c (tkN T n q) ∧ ¬ tkK T n (tkN T n (tkN T n q)) = 0 ∧ tkK T n (tkN T n (tkN T n q)) = 6 ∧ ¬ tkK T n (tkN T n (tkN T n (tkN T n q))) = 0
/-- behind the ( of a func's or proc's head -/
def TUr (T : Nat → Int32) (n : Nat) (b : Bool) (nc mk N st : Nat) (qh : Int32) (E1 : En) (vg q3 : Nat) (y : Int32) (τ τ' : CS) : Prop := y = nI E1.1.length ∧ QS T n b (nc + 1) 2 (tbE (nc + 1) E1) 1 q3 0 mk 0 N τ' ∧ ZF b (nc + 1) 0 st none qh τ' ∧ DE E1 (nc + 1) vg (nc + 1) 0 ∧ τ'.1 (fP b 12) = nI (nc + 1) ∧ UnK b (nc + 1) τ τ' ∧ τ'.2.2.1 (pR13 b) (nc + 1) = nI N ∧ τ'.2.2.1 (pR14 b) (nc + 1) = 0 ∧ τ'.2.2.1 (pR15 b) (nc + 1) = 0
theorem c_tellUnit {z : Option Unit} (h : QS T n b 0 2 (tbE 0 E) 0 q v mk 0 N τ) (zf : ZF b 0 v st none qh τ) (de : DE E 0 vg nc v) (nU : τ.1 (fP b 12) = nI nc) (hk : L.1 1 = nI (if pr = true then 2 else 1)) (hz : (¬ TUC T n E nc q ∧ z = none) ∨ (TUC T n E nc q ∧ z = some ())) : Tm (fun k => f_X5_tellUnit k 0 L τ) (DPo b N z (fun _ y τ' => TUr T n b nc mk N st qh (eC1 T n pr E nc (tkN T n q) bt) vg (tkN T n (tkN T n (tkN T n q))) y τ τ') τ 0 0) := by
  have d0 := Dy_0 h
  obtain ⟨⟨d1, d2, d2'⟩, ⟨d3, d4, d5, d6⟩, d7, d8, d9⟩ := de
  obtain ⟨e21, evg⟩ := d2 rfl
  have hkd : ∀ x, x ∈ E.1 → ¬ x.2.2.1 = 0 := fun x hx => by have := (d8 x hx).2; omega
  have fn := fP_ns b
  have f9 := fP_19 b
  have p13 := pR_13 b
  have zn : ¬ TUC T n E nc q → z = none := fun c => by
    rcases hz with w | w
    · exact w.2
    · exact absurd w.1 c
  refine Tm_suc (fun k => by rw [f_X5_tellUnit]) ?_
  by_cases k1 : tkK T n (tkN T n q) = 0
  · rw [zn (fun c => c.1 k1)]
    exact dt_callQ (z := none) d0 (Nat.le_refl _) (c_advX h (Or.inl ⟨k1, rfl⟩)) (Or.inl ⟨rfl, rfl⟩)
  refine dt_callQ (z := some (tkN T n q)) d0 (Nat.le_refl _) (c_advX h (Or.inr ⟨k1, rfl⟩)) (Or.inr ⟨_, rfl, fun τ1 ret1 n1 n2 h1 xk1 dy1 => ?_⟩)
  by_cases k26 : tkK T n (tkN T n q) = 26
  case neg =>
    rw [zn (fun c => k26 c.2.1.1)]
    exact dt_callQ (z := none) dy1 (Nat.le_refl _) (c_wantQ (kk := 26) h1 (by decide) rfl (Or.inl ⟨k26, rfl⟩)) (Or.inl ⟨rfl, rfl⟩)
  refine dt_callQ (z := some (tkN T n q)) dy1 (Nat.le_refl _) (c_wantQ (kk := 26) h1 (by decide) rfl (Or.inr ⟨k26, rfl⟩)) (Or.inr ⟨_, rfl, fun τ2 ret2 n3 n4 h2 xk2 dy2 => ?_⟩)
  obtain rfl := h2
  have okn := tk_ok h1.1 k26
  have ky := (h1.1.2.2.2.2.2.2.2.2 k26).1
  refine Tm_oP h1.2.2.2.2.1.1 ?_
  refine Tm_op (c_toldFrom (bs := tkS T n (tkN T n q)) (r0 := 0) h1.2.2.2.1 rfl okn ky.1 ky.2 rfl (Nat.zero_le _)) (fun r4 z4 => ?_)
  obtain ⟨er4, z4⟩ := z4
  rw [told_0 e21 hkd] at z4
  rw [er4]
  by_cases kf : (fd E (tkS T n (tkN T n q))).1 = 0
  case neg =>
    rw [zn (fun c => kf c.2.1.2.1)]
    refine Tm_no (fun w => kf (z4.1 w)) ?_
    exact dt_ref h1 dy2 (Nat.le_refl _)
  refine Tm_yes (z4.2 kf) ?_
  refine Tm_suc (fun k => by rw [f_X5_tellUnit]) ?_
  refine Tm_oP h1.2.2.2.2.1.1 ?_
  have nU1 : τ2.1 (fP b 12) = nI nc := (ZK_12 (ZK_of xk1)).trans nU
  rw [nU1]
  by_cases kc : nc = 40
  · rw [zn (fun c => c.2.1.2.2 kc)]
    refine Tm_no (by rw [kc]; decide) ?_
    exact dt_ref h1 dy2 (Nat.le_refl _)
  refine Tm_yes (by rw [u_ltn (by rw [u_n (by omega)]; omega) (by decide), u_n (by omega)]; show nc < 40; omega) ?_
  refine Tm_suc (fun k => by rw [f_X5_tellUnit]) ?_
  have pp : sPp τ2 = some b := h1.2.2.2.2.1.1
  have ni1 : nI nc + 1 = nI (nc + 1) := n_add (q := 1) (by omega)
  refine Tm_oP pp (Tm_oP pp (Tm_oP pp ?_))
  have eA : uI (uI τ2 (fP b 12) (τ2.1 (fP b 12) + 1)) 4003 ((uI τ2 (fP b 12) (τ2.1 (fP b 12) + 1)).1 (fP b 12)) = uI (uI τ2 (fP b 12) (nI (nc + 1))) 4003 (nI (nc + 1)) := by rw [uI_s, nU1, ni1]
  rw [eA]
  have e1N : (uI (uI τ2 (fP b 12) (nI (nc + 1))) 4003 (nI (nc + 1))).1 (fP b 1) = nI N := by
    rw [uI_o (by omega), uI_o (by omega)]
    exact h1.2.1.1
  refine Tm_op (c_openUnit (u := nc + 1) (b := b) (by omega) rfl (show (uI (uI τ2 (fP b 12) (nI (nc + 1))) 4003 (nI (nc + 1))).1 4003 = nI (nc + 1) from uI_s)) (fun r5 z5 => ?_)
  rw [e1N] at z5
  generalize hτ3 : opU b (nc + 1) (nI N) (uI (uI τ2 (fP b 12) (nI (nc + 1))) 4003 (nI (nc + 1))) = τ3 at z5
  rw [z5]
  have g1 : ∀ j, ¬ (j = 4003 ∨ j = 4004 ∨ j = fP b 2 ∨ j = fP b 4 ∨ j = fP b 12 ∨ j = fP b 19) → τ3.1 j = τ2.1 j := fun j hj => by rw [← hτ3, opU_f (by omega), uI_o (by omega), uI_o (by omega)]
  have g2 : τ3.2.1 = τ2.2.1 := by rw [← hτ3]; rfl
  have g3 : ∀ k, ¬ (k = pR13 b ∨ k = pR14 b ∨ k = pR15 b ∨ k = pR16 b ∨ k = pR17 b ∨ k = pR18 b) → τ3.2.2.1 k = τ2.2.2.1 k := fun k hk => by rw [← hτ3, opU_k hk]; rfl
  have g4 : τ3.2.2.2 = τ2.2.2.2 := by rw [← hτ3]; rfl
  have g5 : τ3.1 4003 = nI (nc + 1) := by rw [← hτ3, opU_f (by omega), uI_s]
  have g6 : τ3.1 4004 = nI 2 := by rw [← hτ3, opU_f (by omega), uI_o (by decide), uI_o (by omega)]; exact h1.2.2.2.2.1.2.2
  have g7 : τ3.2.2.1 (pR16 b) (nc + 1) = nI 0 := by rw [← hτ3, opU_16, upd_same]; rfl
  have g8 : τ3.1 (fP b 19) = nI 0 := by rw [← hτ3, opU_19]; rfl
  have g9 : τ3.1 (fP b 12) = nI (nc + 1) := by rw [← hτ3, opU_f (by omega), uI_o (by omega), uI_s]
  obtain ⟨h3, dk3⟩ := QS_ww (u' := nc + 1) (al' := 2) (v' := 0) (p' := 0) h1 g1 g2 g3 g4 g5 g6 g7 (by omega) g8 ⟨by rw [← hτ3, opU_18, upd_other (by omega)]; rfl, by rw [← hτ3, opU_14, upd_other (by omega)]; rfl⟩
  have zf1 := ZF_k zf xk1
  have zf3 : ZF b (nc + 1) 0 st none qh τ3 := ⟨by rw [← hτ3, opU_18, upd_same]; rfl, ⟨by rw [g1 _ (by omega)]; exact zf1.2.1.1, zf1.2.1.2⟩, by rw [g1 _ (by omega)]; exact zf1.2.2.1, by rw [g1 _ (by omega)]; exact zf1.2.2.2.1, by rw [show sN τ3 = sN τ2 from by show τ3.2.2.2.2.1 = _; rw [g4]]; exact zf1.2.2.2.2⟩
  have ph3 := Ph_s (σ := τ2) (σ' := τ3) (by rw [g4])
  have dy3 : Dy b τ N (0 + n1 + n3) (0 + n2 + n4) τ3 := ⟨DK_t dy2.1 dk3 (Nat.le_refl _), by have := dy2.2.1; omega, by have := dy2.2.2; omega⟩
  have uk3 : UnK b (nc + 1) τ2 τ3 := fun i hi => by
    rw [← hτ3, opU_13, opU_14, opU_15, opU_16, opU_18, upd_other hi, upd_other hi, upd_other hi, upd_other hi, upd_other hi]
    exact ⟨⟨rfl, rfl⟩, ⟨rfl, rfl⟩, rfl⟩
  have xk12 := ZK_of xk1
  have uk2 : UnK b (nc + 1) τ τ2 := fun i hi => by
    obtain ⟨e1, e2, e3⟩ := ZK_13 xk12
    have pd := xk1.2.1.1 (pR18 b) (by omega)
    have hq1 := h1.2.2.2.2.2.2.1.1
    have hq0 := h.2.2.2.2.2.2.1.1
    refine ⟨⟨by rw [e1], by rw [e2]⟩, ⟨by rw [e3], ?_⟩, by rw [pd]⟩
    by_cases i0 : i = 0
    · rw [i0, hq0, hq1]
    · exact (xk12.2.2.2.1 i i0).1
  have s13 : τ3.2.2.1 (pR13 b) (nc + 1) = nI N := by rw [← hτ3, opU_13, upd_same]
  have s14 : τ3.2.2.1 (pR14 b) (nc + 1) = 0 := by rw [← hτ3, opU_14, upd_same]
  have s15 : τ3.2.2.1 (pR15 b) (nc + 1) = 0 := by rw [← hτ3, opU_15, upd_same]
  have pp3 : sPp τ3 = some b := h3.2.2.2.2.1.1
  have bl := tbE_l 0 E
  have bl0 : E.2.1.length = 0 := by rw [e21]; rfl
  refine Tm_oP pp3 ?_
  have ky3 : τ3.2.1 3705 = kyH (tkS T n (tkN T n q)) ∧ τ3.2.1 3706 = kyL (tkS T n (tkN T n q)) := by rw [g2]; exact ky
  refine Tm_op (c_tell (bs := tkS T n (tkN T n q)) (w0 := if pr = true then 2 else 1) (o0 := 0) (s0 := nc + 1) h3.2.2.2.1 (by omega) rfl okn ky3.1 ky3.2 hk rfl g5) (fun r6 z6 => ?_)
  obtain ⟨h4, xk4⟩ := QS_tb h3 z6
  have et : tbE 0 E ++ [(tkS T n (tkN T n q), (if pr = true then 2 else 1), 0, nc + 1, false)] = tbE (nc + 1) (eC1 T n pr E nc (tkN T n q) bt) := by
    show (E.1.map gEn ++ E.2.1.reverse.map (lEn 0)) ++ _ = (E.1 ++ [(tkS T n (tkN T n q), bt.2.1, (if pr = true then 3 else 2), nc)]).map gEn ++ []
    rw [e21, List.map_append]
    show (_ ++ []) ++ _ = (_ ++ _) ++ []
    rw [List.append_nil, List.append_nil]
    cases pr <;> rfl
  rw [et] at h4
  have ph4 := Ph_s (σ := τ3) (σ' := r6.2) (by rw [z6.2.2.2.2.1])
  have zk4 := ZK_of xk4
  have dy4 : Dy b τ N (0 + n1 + n3) (0 + n2 + n4) r6.2 := ⟨DK_t dy3.1 (DK_X xk4) (Nat.le_refl _), by have := dy3.2.1; omega, by have := dy3.2.2; omega⟩
  have zf4 := ZF_k zf3 xk4
  have uk4 := UnK_t (UnK_t uk2 uk3) (UnK_Z zk4)
  have e413 := ZK_13 zk4
  have de1 : DE (eC1 T n pr E nc (tkN T n q) bt) (nc + 1) vg (nc + 1) 0 := by
    have nn : ∀ x, x ∈ E.1 → ¬ x.1 = tkS T n (tkN T n q) := by
      rcases fd_cs E (tkS T n (tkN T n q)) with ⟨_, _, _, t⟩ | ⟨_, x, y1, _, _, y4, _⟩ | ⟨_, t, _⟩
      · omega
      · exact absurd (y4.symm.trans kf) (hkd x y1)
      · exact t
    refine ⟨⟨rfl, fun e => absurd e (by omega), fun _ => rfl⟩, ⟨?_, d4, by omega, by omega⟩, ?_, fun x hx => ?_, fun x hx => absurd hx List.not_mem_nil⟩
    · show (E.1 ++ [_]).length = _
      rw [List.length_append, d3]
      show vg + nc + 1 = _
      omega
    · show (E.1 ++ [_]).Pairwise _
      rw [List.pairwise_append]
      exact ⟨d7, List.pairwise_singleton _ _, fun a ha c hc => by rw [List.mem_singleton.1 hc]; exact nn a ha⟩
    · rcases List.mem_append.1 (show x ∈ E.1 ++ [(tkS T n (tkN T n q), bt.2.1, (if pr = true then 3 else 2), nc)] from hx) with t | t
      · exact ⟨(d8 x t).1, by have := (d8 x t).2; omega⟩
      · rw [List.mem_singleton.1 t]
        refine ⟨okn, Or.inr ⟨?_, by show nc < nc + 1; omega⟩⟩
        cases pr
        · exact Or.inl rfl
        · exact Or.inr rfl
  -- the next token, the (, what is behind it
  by_cases k2 : tkK T n (tkN T n (tkN T n q)) = 0
  · rw [zn (fun c => c.2.2.1 k2)]
    exact dt_callQ (z := none) dy4 (Nat.le_refl _) (c_advX h4 (Or.inl ⟨k2, rfl⟩)) (Or.inl ⟨rfl, rfl⟩)
  refine dt_callQ (z := some _) dy4 (Nat.le_refl _) (c_advX h4 (Or.inr ⟨k2, rfl⟩)) (Or.inr ⟨_, rfl, fun τ5 ret5 n5 n6 h5 xk5 dy5 => ?_⟩)
  by_cases k6 : tkK T n (tkN T n (tkN T n q)) = 6
  case neg =>
    rw [zn (fun c => k6 c.2.2.2.1)]
    exact dt_callQ (z := none) dy5 (Nat.le_refl _) (c_wantQ (kk := 6) h5 (by decide) rfl (Or.inl ⟨k6, rfl⟩)) (Or.inl ⟨rfl, rfl⟩)
  refine dt_callQ (z := some _) dy5 (Nat.le_refl _) (c_wantQ (kk := 6) h5 (by decide) rfl (Or.inr ⟨k6, rfl⟩)) (Or.inr ⟨_, rfl, fun τ6 ret6 n7 n8 h6 xk6 dy6 => ?_⟩)
  obtain rfl := h6
  by_cases k3 : tkK T n (tkN T n (tkN T n (tkN T n q))) = 0
  · rw [zn (fun c => c.2.2.2.2 k3)]
    exact dt_callQ (z := none) dy6 (Nat.le_refl _) (c_opensQ h5 (Or.inl ⟨fun c => c.2 k3, rfl⟩)) (Or.inl ⟨rfl, rfl⟩)
  refine dt_callQ (z := some _) dy6 (Nat.le_refl _) (c_opensQ h5 (Or.inr ⟨⟨by decide, k3⟩, rfl⟩)) (Or.inr ⟨_, rfl, fun τ7 ret7 n9 n10 h7 xk7 dy7 => ?_⟩)
  have tt : z = some () := by
    rcases hz with w | w
    · exact absurd ⟨k1, ⟨k26, kf, kc⟩, k2, k6, k3⟩ w.1
    · exact w.2
  rw [tt]
  refine Tm_oP h7.2.2.2.2.1.1 (Tm_some (Dfin dy7 ?_))
  have zk5 := ZK_of xk5
  have zk7 := ZK_of xk7
  have e513 := ZK_13 zk5
  have e713 := ZK_13 zk7
  refine ⟨?_, h7, ZF_k (ZF_k zf4 xk5) xk7, de1, ?_, UnK_t (UnK_t uk4 (UnK_Z zk5)) (UnK_Z zk7), ?_, ?_, ?_⟩
  · show τ7.1 (fP b 11) = _
    rw [h7.2.2.2.1.1, tbE_l]
    rfl
  · rw [ZK_12 zk7, ZK_12 zk5, ZK_12 zk4]
    exact g9
  · rw [e713.1, e513.1, e413.1]
    exact s13
  · rw [e713.2.1, e513.2.1, e413.2.1]
    exact s14
  · rw [e713.2.2, e513.2.2, e413.2.2]
    exact s15
end DYD
