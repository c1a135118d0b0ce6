/-! The class: params of funcs and procs. -/
section DYE
variable {σ σ' σ0 σ2 τ τ' τ0 : CS} {L L2 : LV} {b pr : Bool} {T : Nat → Int32} {n q q' q0 u al o v mk mk' p sz sz' szB nc nc0 sz0 mk0 a1 a2 m kk f w st w' st' r0 c vg vg' vg0 N N0 kd M M' j : Nat} {y qh x : Int32} {l l' cs cs' : List Int32} {tb tb' es : List Ent} {E E' E0 E1 : En} {bt : BT} {lo : Option Nat} {bs : List Int32} {md : Nat → Nat}
theorem sh_c : ∀ c : Nat, c < 8 → (((2 * nI c) &&& 31).toBitVec.smod 32).toNat = 2 * c := by decide
theorem p4_2 (c : Nat) : 4 ^ c = 2 ^ (2 * c) := by rw [Nat.pow_mul]
theorem p4_le {c : Nat} (h : c < 8) : 4 ^ c ≤ 16384 := Nat.pow_le_pow_right (n := 4) (by decide) (show c ≤ 7 by omega)
/-- a mode is put upon the others -/
theorem md_or (hc : c < 8) (hm : m ≤ 2) (hM : M < 4 ^ c) : nI M ||| (nI m <<< ((2 * nI c) &&& 31)) = nI (M + m * 4 ^ c) := by
  have p4 := p4_le hc
  have p2 : m * 4 ^ c ≤ 2 * 16384 := Nat.mul_le_mul hm p4
  have e1 : uN (nI m <<< ((2 * nI c) &&& 31)) = m * 2 ^ (2 * c) := by
    rw [u_shl _ (sh_c c hc) (by rw [u_n (by omega), ← p4_2]; omega), u_n (by omega)]
  rw [u_of (nI M ||| _)]
  refine congrArg nI ?_
  rw [u_orA (k := 2 * c) (a := m) (by rw [u_n (by omega), ← p4_2]; exact hM) e1, e1, u_n (by omega), p4_2]
theorem md_get (hj : j < 8) (hM : M < 65536) : (nI M >>> ((2 * nI j) &&& 31)) &&& 3 = nI (M / 4 ^ j % 4) := by
  have eM : uN (nI M) = M := u_n (by omega)
  rw [u_of ((nI M >>> ((2 * nI j) &&& 31)) &&& 3), u_and]
  refine congrArg nI ((Nat.and_two_pow_sub_one_eq_mod (uN (nI M >>> ((2 * nI j) &&& 31))) 2).trans ?_)
  have e : uN (nI M >>> ((2 * nI j) &&& 31)) = M / 2 ^ (2 * j) := by
    show ((nI M).toBitVec.sshiftRight' (((2 * nI j) &&& 31).toBitVec.smod 32)).toNat = _
    rw [BitVec.sshiftRight_eq', sh_c j hj, BitVec.sshiftRight_eq_of_msb_false (by rw [BitVec.msb_eq_decide]; exact decide_eq_false (by show ¬ 2 ^ 31 ≤ uN (nI M); omega)), BitVec.toNat_ushiftRight, Nat.shiftRight_eq_div_pow]
    show uN (nI M) / _ = _
    rw [eM]
  rw [e, p4_2]
/-- modes as a number -/
def MdN (M c : Nat) (md : Nat → Nat) : Prop := M < 4 ^ c ∧ ∀ j, j < c → M / 4 ^ j % 4 = md j ∧ md j ≤ 2
theorem MdN_0 : MdN 0 0 md := ⟨by decide, fun j hj => absurd hj (Nat.not_lt_zero _)⟩
theorem MdN_s (h : MdN M c md) (hm : m ≤ 2) : MdN (M + m * 4 ^ c) (c + 1) (updN md c m) := by
  obtain ⟨h1, h2⟩ := h
  have e4 : 4 ^ (c + 1) = 4 ^ c * 4 := Nat.pow_succ 4 c
  have pp : 0 < 4 ^ c := Nat.pos_of_ne_zero (by have := Nat.pow_pos (n := c) (show 0 < 4 by decide); omega)
  refine ⟨?_, fun j hj => ?_⟩
  · have : m * 4 ^ c ≤ 2 * 4 ^ c := Nat.mul_le_mul_right _ hm
    omega
  · by_cases e : j = c
    · rw [e]
      have e2 : (M + m * 4 ^ c) / 4 ^ c = m := by
        rw [Nat.add_mul_div_right _ _ pp, Nat.div_eq_of_lt h1, Nat.zero_add]
      have e3 : updN md c m c = m := if_pos rfl
      rw [e2, e3]
      exact ⟨Nat.mod_eq_of_lt (by omega), hm⟩
    · have e3 : updN md c m j = md j := if_neg e
      rw [e3]
      refine ⟨?_, (h2 j (by omega)).2⟩
      have ex : ∃ d, c = j + 1 + d := ⟨c - (j + 1), by omega⟩
      obtain ⟨d, ed⟩ := ex
      have e5 : m * 4 ^ c = (m * 4 ^ d * 4) * 4 ^ j := by
        rw [ed, Nat.pow_add, Nat.pow_succ, Nat.mul_comm (4 ^ j * 4) (4 ^ d), Nat.mul_comm (4 ^ j) 4, ← Nat.mul_assoc (4 ^ d) 4, ← Nat.mul_assoc m, ← Nat.mul_assoc m]
      have pj : 0 < 4 ^ j := Nat.pow_pos (by decide)
      rw [e5, Nat.add_mul_div_right _ _ pj, Nat.add_mul_mod_self_right]
      exact (h2 j (by omega)).1
theorem MdN_l (h : MdN M c md) (hc : c ≤ 8) : M < 65536 := by
  have : 4 ^ c ≤ 4 ^ 8 := Nat.pow_le_pow_right (by decide) hc
  have := h.1
  omega
/-- what is around in a unit whose params are being told -/
def EPm (p : Nat) (E1 E : En) (c : Nat) : Prop := E.1 = E1.1 ∧ (E.2.2.2.1 = E1.2.2.2.1 ∧ E.2.2.2.2.1 = E1.2.2.2.2.1 ∧ E.2.2.2.2.2.1 = E1.2.2.2.2.2.1) ∧ (∀ i, ¬ i = p → E.2.2.2.2.2.2 i = E1.2.2.2.2.2.2 i) ∧ E.2.2.2.2.2.2 p = c
/-- how it stands among params -/
def PmS (T : Nat → Int32) (n : Nat) (b : Bool) (nc al mk N st : Nat) (qh : Int32) (E1 : En) (vg : Nat) (σ0 : CS) (M : Nat) (E : En) (c : Nat) (md : Nat → Nat) (q v : Nat) (τ : CS) : Prop := (QS T n b (nc + 1) al (tbE (nc + 1) E) 1 q v mk 0 N τ ∧ ZF b (nc + 1) v st none qh τ ∧ DE E (nc + 1) vg (nc + 1) v) ∧ (c = v ∧ c ≤ 8) ∧ (τ.1 (fP b 12) = nI (nc + 1) ∧ UnK b (nc + 1) σ0 τ ∧ τ.2.2.1 (pR13 b) (nc + 1) = nI N ∧ τ.2.2.1 (pR14 b) (nc + 1) = nI c ∧ τ.2.2.1 (pR15 b) (nc + 1) = nI M) ∧ MdN M c md ∧ EPm nc E1 E c
/-- a row of the unit is set -/
theorem QS_u {k i : Nat} {y : Int32} (h : QS T n b u al tb o q v mk p N σ) (hk : k = pR13 b ∨ k = pR14 b ∨ k = pR15 b) (hi : ¬ i = 41 := by omega) : QS T n b u al tb o q v mk p N (uA σ k i y) ∧ DK b N σ (uA σ k i y) := by
  have p13 := pR_13 b
  exact QS_ww h (fun _ _ => rfl) rfl (fun k' hk' => uA_k (by omega)) rfl h.2.2.2.2.1.2.1 h.2.2.2.2.1.2.2 (by rw [uA_k (by omega)]; exact h.2.2.2.2.2.2.1.1) h.2.2.2.2.2.2.1.2 h.2.2.2.2.2.2.2 ⟨by rw [uA_k (by omega)], by
    by_cases e : k = pR14 b
    · rw [e, uA_r, upd_other (fun z => hi z.symm)]
    · rw [uA_k (fun z => e z.symm)]⟩
theorem ZF_u {k i : Nat} {y : Int32} (h : ZF b u w st lo qh σ) (hk : k = pR13 b ∨ k = pR14 b ∨ k = pR15 b) : ZF b u w st lo qh (uA σ k i y) := by
  have p13 := pR_13 b
  exact ⟨by rw [uA_k (by omega)]; exact h.1, h.2⟩
theorem UnK_u {k : Nat} {y : Int32} (h : UnK b u σ τ) (hk : k = pR14 b ∨ k = pR15 b) : UnK b u σ (uA τ k u y) := fun i hi => by
  have p13 := pR_13 b
  obtain ⟨⟨a1, a2⟩, ⟨a3, a4⟩, a5⟩ := h i hi
  rcases hk with e | e
  · rw [e]
    exact ⟨⟨by rw [uA_k (by omega)]; exact a1, by rw [uA_r, upd_other hi]; exact a2⟩, ⟨by rw [uA_k (by omega)]; exact a3, by rw [uA_k (by omega)]; exact a4⟩, by rw [uA_k (by omega)]; exact a5⟩
  · rw [e]
    exact ⟨⟨by rw [uA_k (by omega)]; exact a1, by rw [uA_k (by omega)]; exact a2⟩, ⟨by rw [uA_r, upd_other hi]; exact a3, by rw [uA_k (by omega)]; exact a4⟩, by rw [uA_k (by omega)]; exact a5⟩
/-- behind a param, its mode not put down yet -/
def PmRr (T : Nat → Int32) (n : Nat) (b : Bool) (u al mk N st : Nat) (qh : Int32) (tb : List Ent) (q v c : Nat) (τ τ' : CS) : Prop := QS T n b u al (tb ++ [(tkS T n q, 0, u, v, false)]) 1 (tkN T n q) (v + 1) mk 0 N τ' ∧ ZF b u (v + 1) st none qh τ' ∧ UnK b u τ τ' ∧ τ'.1 (fP b 12) = τ.1 (fP b 12) ∧ τ'.2.2.1 (pR13 b) u = τ.2.2.1 (pR13 b) u ∧ τ'.2.2.1 (pR14 b) u = nI (c + 1) ∧ τ'.2.2.1 (pR15 b) u = τ.2.2.1 (pR15 b) u
theorem c_param {z : Option Unit} (hu : u < 41) (h : QS T n b u al tb 1 q v mk 0 N τ) (zf : ZF b u v st none qh τ) (hl : v < 60 → tb.length < 256) (e14 : τ.2.2.1 (pR14 b) u = nI c) (hc : c ≤ 8) (hr : r0 ≤ tb.length) (l1 : L.1 1 = nI r0) (hz : (¬ (NmG T n tb r0 q v ∧ ¬ c = 8) ∧ z = none) ∨ ((NmG T n tb r0 q v ∧ ¬ c = 8) ∧ z = some ())) : Tm (fun k => f_X5_parameter k 0 L τ) (DPo b N z (fun _ _ τ' => PmRr T n b u al mk N st qh tb q v c τ τ') τ 0 0) := by
  have d0 := Dy_0 h
  have e3 : τ.1 4003 = nI u := h.2.2.2.2.1.2.1
  have i42 : ¬ (nI u < 0 ∨ 42 ≤ (nI u).toNatClampNeg) := u_in (by rw [u_n (by omega)]; omega) (by decide)
  have cl : (nI u).toNatClampNeg = u := n_cl (p := u) (by omega)
  have p13 := pR_13 b
  have pp : sPp τ = some b := h.2.2.2.2.1.1
  have v60 : v ≤ 60 := h.2.2.2.2.2.2.1.2
  have zn : ¬ (NmG T n tb r0 q v ∧ ¬ c = 8) → z = none := fun e => by
    rcases hz with w | w
    · exact w.2
    · exact absurd w.1 e
  refine Tm_suc (fun k => by rw [f_X5_parameter]) ?_
  by_cases k26 : tkK T n q = 26
  case neg =>
    rw [zn (fun e => k26 e.1.1)]
    exact dt_callQ (z := none) d0 (Nat.le_refl _) (c_wantQ (kk := 26) h (by decide) rfl (Or.inl ⟨k26, rfl⟩)) (Or.inl ⟨rfl, rfl⟩)
  refine dt_callQ (z := some q) d0 (Nat.le_refl _) (c_wantQ (kk := 26) h (by decide) rfl (Or.inr ⟨k26, rfl⟩)) (Or.inr ⟨_, rfl, fun τ1 ret1 n1 n2 h1 xk1 dy1 => ?_⟩)
  obtain rfl := h1
  have okn := tk_ok h.1 k26
  have ky := (h.1.2.2.2.2.2.2.2.2 k26).1
  refine Tm_oP pp ?_
  refine Tm_op (c_toldFrom (bs := tkS T n q) (r0 := r0) h.2.2.2.1 rfl okn ky.1 ky.2 l1 hr) (fun r4 z4 => ?_)
  obtain ⟨er4, z4⟩ := z4
  rw [er4]
  by_cases kt : ∀ j, r0 ≤ j → j < tb.length → ¬ (tb.getD j e0E).1 = tkS T n q
  case neg =>
    rw [zn (fun e => kt e.1.2.1)]
    refine Tm_no (fun w => kt (z4.1 w)) ?_
    exact dt_ref h dy1 (Nat.le_refl _)
  refine Tm_yes (z4.2 kt) ?_
  refine Tm_suc (fun k => by rw [f_X5_parameter]) ?_
  refine Tm_oP pp ?_
  rw [e3]
  refine Tm_chk i42 ?_
  rw [cl, e14]
  by_cases c8 : c = 8
  · rw [zn (fun e => e.2 c8)]
    refine Tm_no (by rw [c8]; decide) ?_
    exact dt_ref h dy1 (Nat.le_refl _)
  refine Tm_yes (by rw [u_ltn (by rw [u_n (by omega)]; omega) (by decide), u_n (by omega)]; show c < 8; omega) ?_
  refine Tm_suc (fun k => by rw [f_X5_parameter]) ?_
  by_cases hN : NmG T n tb r0 q v
  case neg =>
    rw [zn (fun e => hN e.1)]
    exact dt_callZ (z := none) dy1 (Nat.le_refl _) (c_tv (L := lI lZ 1 (L.1 1)) h zf (by omega) hl (by omega) l1 hr (Or.inl ⟨hN, rfl⟩)) (Or.inl ⟨rfl, rfl⟩)
  have zs : z = some () := by
    rcases hz with w | w
    · exact absurd ⟨hN, c8⟩ w.1
    · exact w.2
  rw [zs]
  refine dt_callZ (z := some ()) dy1 (Nat.le_refl _) (c_tv (L := lI lZ 1 (L.1 1)) h zf (by omega) hl (by omega) l1 hr (Or.inr ⟨hN, rfl⟩)) (Or.inr ⟨_, rfl, fun τ2 ret2 n3 n4 h2 zk2 dy2 => ?_⟩)
  obtain ⟨h2, zf2⟩ := h2
  refine Tm_oP h2.2.2.2.2.1.1 ?_
  have e32 : τ2.1 4003 = nI u := h2.2.2.2.2.1.2.1
  show Tm (fun k => if ¬ (τ2.1 4003 < 0 ∨ 42 ≤ (τ2.1 4003).toNatClampNeg) then (if ¬ (τ2.1 4003 < 0 ∨ 42 ≤ (τ2.1 4003).toNatClampNeg) then (some ((0, 0), (uA τ2 (pR14 b) (τ2.1 4003).toNatClampNeg (τ2.2.2.1 (pR14 b) (τ2.1 4003).toNatClampNeg + 1)), (0, 0))) else none) else none) _
  rw [e32]
  refine Tm_chk i42 (Tm_chk i42 ?_)
  obtain ⟨e213, e214, e215⟩ := ZK_13 zk2
  rw [cl, e214, e14, show nI c + 1 = nI (c + 1) from n_add (q := 1) (by omega)]
  obtain ⟨h3, dk3⟩ := QS_u (k := pR14 b) (i := u) (y := nI (c + 1)) h2 (Or.inr (Or.inl rfl))
  have ph := Ph_s (σ := τ2) (σ' := uA τ2 (pR14 b) u (nI (c + 1))) rfl
  refine Tm_some (Dfin ⟨DK_t dy2.1 dk3 (Nat.le_refl _), by have := dy2.2.1; omega, by have := dy2.2.2; omega⟩ ⟨h3, ZF_u zf2 (Or.inr (Or.inl rfl)), UnK_u (UnK_Z zk2) (Or.inl rfl), ?_, ?_, ?_, ?_⟩)
  · show τ2.1 (fP b 12) = _
    exact ZK_12 zk2
  · rw [uA_k (by omega), e213]
  · rw [uA_r, upd_same]
  · rw [uA_k (by omega), e215]
/-- a param without a mode, and what the reference says of it -/
theorem c_paramF {z : Option Unit} (h : PmS T n b nc al mk N st qh E1 vg σ0 M E c md q v τ) (hu : nc + 1 < 41) (l1 : L.1 1 = nI E1.1.length) (hz : (¬ (NmG T n (tbE (nc + 1) E) E.1.length q v ∧ ¬ c = 8) ∧ z = none) ∨ ((NmG T n (tbE (nc + 1) E) E.1.length q v ∧ ¬ c = 8) ∧ z = some ())) : Tm (fun k => f_X5_parameter k 0 L τ) (DPo b N z (fun _ _ τ' => PmRr T n b (nc + 1) al mk N st qh (tbE (nc + 1) E) q v c τ τ') τ 0 0) := by
  obtain ⟨⟨h1, h2, h3⟩, ⟨h4, h4'⟩, ⟨h5, h6, h7, h8, h9⟩, h10, h11⟩ := h
  exact c_param hu h1 h2 (DE_l h3) h8 h4' (by rw [tbE_l]; omega) (by rw [l1, h11.1]) hz
/-- so it stands behind it -/
theorem PmS_s {E' : En} (h : PmS T n b nc al mk N st qh E1 vg σ0 M E c md q v τ) (c8 : ¬ c = 8) (r : PmRr T n b (nc + 1) al mk N st qh (tbE (nc + 1) E) q v c τ τ') (eE : tbE (nc + 1) E' = tbE (nc + 1) E ++ [(tkS T n q, 0, nc + 1, v, false)]) (de : DE E' (nc + 1) vg (nc + 1) (v + 1)) (dx : DxR (nc + 1) E E') : PmS T n b nc al mk N st qh E1 vg σ0 M (sP E' nc (c + 1)) (c + 1) (updN md c 0) (tkN T n q) (v + 1) τ' := by
  obtain ⟨⟨h1, h2, h3⟩, ⟨h4, h4'⟩, ⟨h5, h6, h7, h8, h9⟩, h10, ⟨g1, ⟨g2, g3, g4⟩, g5, g6⟩⟩ := h
  obtain ⟨r1, r2, r3, r4, r5, r6, r7⟩ := r
  obtain ⟨x1, x2, x3, x4⟩ := dx
  rw [← eE] at r1
  have md1 := MdN_s (m := 0) h10 (by omega)
  rw [Nat.zero_mul, Nat.add_zero] at md1
  refine ⟨⟨r1, r2, de⟩, ⟨by omega, by omega⟩, ⟨r4.trans h5, UnK_t h6 r3, r5.trans h7, r6, r7.trans h9⟩, md1, ⟨(x2 (by omega)).trans g1, ⟨?_, ?_, ?_⟩, fun i hi => ?_, ?_⟩⟩
  · show E'.2.2.2.1 = _; rw [x1]; exact g2
  · show E'.2.2.2.2.1 = _; rw [x1]; exact g3
  · show E'.2.2.2.2.2.1 = _; rw [x1]; exact g4
  · show updN E'.2.2.2.2.2.2 nc (c + 1) i = _
    rw [show updN E'.2.2.2.2.2.2 nc (c + 1) i = E'.2.2.2.2.2.2 i from if_neg hi, x1]
    exact g5 i hi
  · show updN E'.2.2.2.2.2.2 nc (c + 1) nc = _
    exact if_pos rfl
/-- a mode is put down -/
theorem PmS_m (h : PmS T n b nc al mk N st qh E1 vg σ0 M E (c + 1) (updN md c 0) q v τ) (hM : MdN M c md) (hm : m ≤ 2) : PmS T n b nc al mk N st qh E1 vg σ0 (M + m * 4 ^ c) E (c + 1) (updN md c m) q v (uA τ (pR15 b) (nc + 1) (nI (M + m * 4 ^ c))) := by
  obtain ⟨⟨h1, h2, h3⟩, ⟨h4, h4'⟩, ⟨h5, h6, h7, h8, h9⟩, h10, h11⟩ := h
  have p13 := pR_13 b
  exact ⟨⟨(QS_u h1 (Or.inr (Or.inr rfl)) (by have := h3.2.1.2.2.1; omega)).1, ZF_u h2 (Or.inr (Or.inr rfl)), h3⟩, ⟨h4, h4'⟩, ⟨h5, UnK_u h6 (Or.inr rfl), by rw [uA_k (by omega)]; exact h7, by rw [uA_k (by omega)]; exact h8, by rw [uA_r, upd_same]⟩, MdN_s hM hm, h11⟩
end DYE
