/-! The class: the params of a proc, with their modes. -/
section DYJ
variable {σ σ' σ0 σ2 τ τ' τ0 : CS} {L L2 : LV} {b pr : Bool} {T : Nat → Int32} {n q q' q0 q1 u al o v v0 v' mk mk' p sz nc a1 a2 m f w st r0 vg vg' N N0 N1 M j W np pc op b0 c : Nat} {y qh x : Int32} {l l' cs cs' : List Int32} {tb tb' A B : List Ent} {E E' E0 E1 : En} {bt bt0 : BT} {lo : Option Nat} {md : Nat → Nat} {MD : Nat → Nat → Nat} {g : PRG} {s : SB} {F : Nat → Int32} {X : Option PRG} {S : PRG → Int32 → CS → Prop}
/-- the next token, among params -/
theorem PmS_x (pm : PmS T n b nc al mk N st qh E1 vg σ0 M E c md q v τ) (h : QS T n b (nc + 1) al (tbE (nc + 1) E) 1 q' v mk 0 N τ') (xk : XK b (nc + 1) sz N0 mk' τ τ') : PmS T n b nc al mk N st qh E1 vg σ0 M E c md q' v τ' := by
  obtain ⟨⟨h1, h2, h3⟩, ⟨h4, h4'⟩, ⟨h5, h6, h7, h8, h9⟩, h10, h11⟩ := pm
  have e13 := ZK_13 (ZK_of xk)
  exact ⟨⟨h, ZF_k h2 xk, h3⟩, ⟨h4, h4'⟩, ⟨(ZK_12 (ZK_of xk)).trans h5, UnK_t h6 (UnK_Z (ZK_of xk)), by rw [e13.1]; exact h7, by rw [e13.2.1]; exact h8, by rw [e13.2.2]; exact h9⟩, h10, h11⟩
theorem c_mp2 {z : Option Unit} (pm : PmS T n b nc al mk N st qh E1 vg σ0 M E c md q v τ) (hu : nc + 1 < 41) (l1 : L.1 1 = nI E1.1.length) (l2 : L.1 2 = nI m) (hm : m ≤ 2) (hz : (¬ (NmG T n (tbE (nc + 1) E) E.1.length q v ∧ ¬ c = 8) ∧ z = none) ∨ ((NmG T n (tbE (nc + 1) E) E.1.length q v ∧ ¬ c = 8) ∧ z = some ())) : Tm (fun k => f_X5_modeAndParameter k 2 L τ) (DPo b N z (fun _ _ τ' => ∀ E', tbE (nc + 1) E' = tbE (nc + 1) E ++ [(tkS T n q, 0, nc + 1, v, false)] → DE E' (nc + 1) vg (nc + 1) (v + 1) → DxR (nc + 1) E E' → PmS T n b nc al mk N st qh E1 vg σ0 (M + m * 4 ^ c) (sP E' nc (c + 1)) (c + 1) (updN md c m) (tkN T n q) (v + 1) τ') τ 0 0) := by
  have h1 := pm.1.1
  have d0 := Dy_0 h1
  have e3 : τ.1 4003 = nI (nc + 1) := h1.2.2.2.2.1.2.1
  have i42 : ¬ (nI (nc + 1) < 0 ∨ 42 ≤ (nI (nc + 1)).toNatClampNeg) := u_in (by rw [u_n (by omega)]; omega) (by decide)
  have cl : (nI (nc + 1)).toNatClampNeg = nc + 1 := n_cl (p := nc + 1) (by omega)
  have e14 : τ.2.2.1 (pR14 b) (nc + 1) = nI c := pm.2.2.1.2.2.2.1
  have e15 : τ.2.2.1 (pR15 b) (nc + 1) = nI M := pm.2.2.1.2.2.2.2
  refine Tm_suc (fun k => by rw [f_X5_modeAndParameter]) ?_
  refine Tm_oP h1.2.2.2.2.1.1 ?_
  rw [e3]
  refine Tm_chk i42 ?_
  rw [cl, e14]
  rcases hz with ⟨w1, w2⟩ | ⟨w1, w2⟩
  · rw [w2]
    exact dt_callD (z := none) d0 (Nat.le_refl _) (c_paramF (L := lI lZ 1 (L.1 1)) pm hu l1 (Or.inl ⟨w1, rfl⟩)) (Or.inl ⟨rfl, rfl⟩)
  rw [w2]
  refine dt_callD (z := some ()) d0 (Nat.le_refl _) (c_paramF (L := lI lZ 1 (L.1 1)) pm hu l1 (Or.inr ⟨w1, rfl⟩)) (Or.inr ⟨_, rfl, fun τ1 ret1 n1 n2 r1 dk1 dy1 => ?_⟩)
  have r1' := r1
  obtain ⟨r2, r3, r4, r5, r6, r7, r8⟩ := r1
  refine Tm_oP r2.2.2.2.2.1.1 (Tm_oP r2.2.2.2.2.1.1 ?_)
  have e31 : τ1.1 4003 = nI (nc + 1) := r2.2.2.2.2.1.2.1
  show Tm (fun k => if ¬ (τ1.1 4003 < 0 ∨ 42 ≤ (τ1.1 4003).toNatClampNeg) then (if ¬ (τ1.1 4003 < 0 ∨ 42 ≤ (τ1.1 4003).toNatClampNeg) then (some ((0, 0), (uA τ1 (pR15 b) (τ1.1 4003).toNatClampNeg (τ1.2.2.1 (pR15 b) (τ1.1 4003).toNatClampNeg ||| (L.1 2 <<< ((2 * nI c) &&& 31)))), (0, 0))) else none) else none) _
  rw [e31]
  refine Tm_chk i42 (Tm_chk i42 ?_)
  have c8 : c < 8 := by have := pm.2.1.2; have := w1.2; omega
  rw [cl, r8, e15, l2, md_or c8 hm pm.2.2.2.1.1]
  obtain ⟨h3, dk3⟩ := QS_u (k := pR15 b) (i := nc + 1) (y := nI (M + m * 4 ^ c)) r2 (Or.inr (Or.inr rfl))
  have ph := Ph_s (σ := τ1) (σ' := uA τ1 (pR15 b) (nc + 1) (nI (M + m * 4 ^ c))) rfl
  refine Tm_some (Dfin ⟨DK_t dy1.1 dk3 (Nat.le_refl _), by have := dy1.2.1; omega, by have := dy1.2.2; omega⟩ (fun E' eE de dx => ?_))
  exact PmS_m (PmS_s pm w1.2 r1' eE de dx) pm.2.2.2.1 hm
/-- is there a mode? -/
abbrev isMd (k : Nat) : Prop := k = 35 ∨ k = 36 ∨ k = 37
theorem c_mp {z : Option Unit} (pm : PmS T n b nc al mk N st qh E1 vg σ0 M E c md q v τ) (hu : nc + 1 < 41) (l1 : L.1 1 = nI E1.1.length) (hA : (isMd (tkK T n q) ∧ m = tkK T n q - 35 ∧ q1 = tkN T n q) ∨ (¬ isMd (tkK T n q) ∧ m = 0 ∧ q1 = q)) (hz : (¬ (¬ tkK T n q1 = 0 ∧ NmG T n (tbE (nc + 1) E) E.1.length q1 v ∧ ¬ c = 8) ∧ z = none) ∨ ((¬ tkK T n q1 = 0 ∧ NmG T n (tbE (nc + 1) E) E.1.length q1 v ∧ ¬ c = 8) ∧ z = some ())) : Tm (fun k => f_X5_modeAndParameter k 0 L τ) (DPo b N z (fun _ _ τ' => ∀ E', tbE (nc + 1) E' = tbE (nc + 1) E ++ [(tkS T n q1, 0, nc + 1, v, false)] → DE E' (nc + 1) vg (nc + 1) (v + 1) → DxR (nc + 1) E E' → PmS T n b nc al mk N st qh E1 vg σ0 (M + m * 4 ^ c) (sP E' nc (c + 1)) (c + 1) (updN md c m) (tkN T n q1) (v + 1) τ') τ 0 0) := by
  have h1 := pm.1.1
  have d0 := Dy_0 h1
  have k35 := lx_k (kk := 35) h1 (by decide)
  have k36 := lx_k (kk := 36) h1 (by decide)
  have k37 := lx_k (kk := 37) h1 (by decide)
  have kk0 : ¬ tkK T n q = 0 := h1.1.2.2.2.2.1
  rcases hA with ⟨a1, a2, a3⟩ | ⟨a1, a2, a3⟩
  · subst a2
    subst a3
    have b1 : Tm (fun k => f_X5_modeAndParameter k 1 L τ) (DPo b N z (fun _ _ τ' => ∀ E', tbE (nc + 1) E' = tbE (nc + 1) E ++ [(tkS T n (tkN T n q), 0, nc + 1, v, false)] → DE E' (nc + 1) vg (nc + 1) (v + 1) → DxR (nc + 1) E E' → PmS T n b nc al mk N st qh E1 vg σ0 (M + (tkK T n q - 35) * 4 ^ c) (sP E' nc (c + 1)) (c + 1) (updN md c (tkK T n q - 35)) (tkN T n (tkN T n q)) (v + 1) τ') τ 0 0) := by
      refine Tm_suc (fun k => by rw [f_X5_modeAndParameter]) ?_
      by_cases z1 : tkK T n (tkN T n q) = 0
      · have zn : z = none := by
          rcases hz with w | w
          · exact w.2
          · exact absurd z1 w.1.1
        rw [zn]
        exact dt_callQ (z := none) d0 (Nat.le_refl _) (c_advX h1 (Or.inl ⟨z1, rfl⟩)) (Or.inl ⟨rfl, rfl⟩)
      · refine dt_callQ (z := some _) d0 (Nat.le_refl _) (c_advX h1 (Or.inr ⟨z1, rfl⟩)) (Or.inr ⟨_, rfl, fun τ1 ret1 n1 n2 q1 xk1 dy1 => ?_⟩)
        have pm1 := PmS_x pm q1 xk1
        have em : τ.1 3702 - 35 = nI (tkK T n q - 35) := by
          rcases a1 with e | e | e
          · rw [k35.2 e, e]; decide
          · rw [k36.2 e, e]; decide
          · rw [k37.2 e, e]; decide
        have t := c_mp2 (L := lI L 2 (τ.1 3702 - 35)) (m := tkK T n q - 35) (z := z) pm1 hu l1 em (by omega) (by
          rcases hz with w | w
          · exact Or.inl ⟨fun e => w.1 ⟨z1, e⟩, w.2⟩
          · exact Or.inr ⟨w.1.2, w.2⟩)
        refine Tm_mono t (fun r w => ?_)
        obtain ⟨w1, w2, w3, w4, w5⟩ := w
        have y1 := dy1.2.1
        have y2 := dy1.2.2
        exact ⟨w1, w2, fun e => by have := w3 e; omega, fun e => by have := w4 e; omega, DK_t dy1.1 w5 (Nat.le_refl _)⟩
    refine Tm_suc (fun k => by rw [f_X5_modeAndParameter]) ?_
    by_cases e35 : τ.1 3702 = 35
    · exact Tm_yes e35 b1
    refine Tm_no e35 ?_
    by_cases e36 : τ.1 3702 = 36
    · exact Tm_yes e36 b1
    refine Tm_no e36 ?_
    have e37 : τ.1 3702 = 37 := by
      rcases a1 with e | e | e
      · exact absurd (k35.2 e) e35
      · exact absurd (k36.2 e) e36
      · exact k37.2 e
    exact Tm_yes e37 b1
  · subst a2
    rw [a3] at hz
    rw [a3]
    refine Tm_suc (fun k => by rw [f_X5_modeAndParameter]) ?_
    refine Tm_no (fun e => a1 (Or.inl (k35.1 e))) ?_
    refine Tm_no (fun e => a1 (Or.inr (Or.inl (k36.1 e)))) ?_
    refine Tm_no (fun e => a1 (Or.inr (Or.inr (k37.1 e)))) ?_
    exact c_mp2 (L := lI L 2 0) (m := 0) (z := z) pm hu l1 rfl (by omega) (by
      rcases hz with w | w
      · exact Or.inl ⟨fun e => w.1 ⟨kk0, e⟩, w.2⟩
      · exact Or.inr ⟨w.1.2, w.2⟩)
/-- a proc's param -/
theorem pr_pm (hu : nc + 1 < 41) (ih : ∀ (E : En) (c : Nat) (md : Nat → Nat) (q v : Nat) (bt : BT) (x : Option PV6), GPm T n true nc f E c md q v bt = some x → 1 ≤ c → PmK T n b nc al N st E1 vg q0 b0 σ0 X S f_X5_procedure x → ∀ (M a1 a2 : Nat) (L : LV) (τ : CS), Dy b σ0 N a1 a2 τ → PmS T n b nc al 0 N st 0 E1 vg σ0 M E c md q v τ → L.1 1 = nI E1.1.length → uN (L.1 2) + 1 ≤ c → q0 ≤ q → b0 ≤ bt.1 → Tm (fun k => f_X5_procedure k 2 L τ) (DPo b N X S σ0 a1 a2)) {c : Nat} {x : Option PV6} (hG : gPI T n true E c q v bt (fun m r => GPm T n true nc f (sP r.2.1 nc (c + 1)) (c + 1) (updN md c m) r.1 r.2.2.1 r.2.2.2) = some x) (K : PmK T n b nc al N st E1 vg q0 b0 σ0 X S f_X5_procedure x) (dy : Dy b σ0 N a1 a2 τ) (pm : PmS T n b nc al 0 N st 0 E1 vg σ0 M E c md q v τ) (hq : q0 ≤ q) (hb : b0 ≤ bt.1) (l1 : y = nI E1.1.length) (l2 : L2.1 1 = nI E1.1.length) (l3 : uN (L2.1 2) ≤ c) : Tm (fun k => ox (f_X5_modeAndParameter k 0 (lI lZ 1 y) τ) (fun r => f_X5_procedure k 2 L2 r.2.1)) (DPo b N X S σ0 a1 a2) := by
  have qn : q ≤ n := pm.1.1.1.2.2.2.1
  have tb1 := tkN_b T n q qn
  have hex : ∃ m q1, ((isMd (tkK T n q) ∧ m = tkK T n q - 35 ∧ q1 = tkN T n q) ∨ (¬ isMd (tkK T n q) ∧ m = 0 ∧ q1 = q)) ∧ ((tkK T n q1 = 0 ∧ x = none) ∨ (¬ tkK T n q1 = 0 ∧ gPJ T n E c m q1 v bt (fun m r => GPm T n true nc f (sP r.2.1 nc (c + 1)) (c + 1) (updN md c m) r.1 r.2.2.1 r.2.2.2) = some x)) := by
    unfold gPI at hG
    by_cases k : isMd (tkK T n q)
    · rw [if_pos ⟨rfl, k⟩] at hG
      refine ⟨_, _, Or.inl ⟨k, rfl, rfl⟩, ?_⟩
      rcases pT_any hG with w | w
      · exact Or.inl w
      · exact Or.inr w
    · rw [if_neg (fun z => k z.2)] at hG
      exact ⟨_, _, Or.inr ⟨k, rfl, rfl⟩, Or.inr ⟨pm.1.1.1.2.2.2.2.1, hG⟩⟩
  obtain ⟨m, q1, hA, hB⟩ := hex
  have q1q : q ≤ q1 ∧ q1 ≤ n := by
    rcases hA with w | w
    · rw [w.2.2]; omega
    · rw [w.2.2]; omega
  have tb2 := tkN_b T n q1 q1q.2
  have none_ : ¬ (¬ tkK T n q1 = 0 ∧ NmG T n (tbE (nc + 1) E) E.1.length q1 v ∧ ¬ c = 8) → x = none → Tm (fun k => ox (f_X5_modeAndParameter k 0 (lI lZ 1 y) τ) (fun r => f_X5_procedure k 2 L2 r.2.1)) (DPo b N X S σ0 a1 a2) := fun e1 e2 => by
    rw [K.1 e2]
    exact dt_callD (z := none) dy (Nat.le_refl _) (c_mp (L := lI lZ 1 y) pm hu l1 hA (Or.inl ⟨e1, rfl⟩)) (Or.inl ⟨rfl, rfl⟩)
  rcases hB with ⟨w1, w2⟩ | ⟨w1, w2⟩
  · exact none_ (fun e => e.1 w1) w2
  unfold gPJ at w2
  by_cases c8 : c = 8
  · rw [if_pos c8] at w2
    exact none_ (fun e => e.2.2 c8) (Option.some.inj w2).symm
  rw [if_neg c8] at w2
  have okn : tkK T n q1 = 26 → okN (tkS T n q1) := fun k => (nm_same (R := τ.2.2.1 38) (hi := 0) (lo := 0) pm.1.1.1.2.1 q1q.2 k).1
  rcases gl_any pm.1.2.2 (by omega) okn w2 with ⟨y1, y2⟩ | ⟨y1, E', b', y2, y3, y4, y5, y6⟩
  · exact none_ (fun e => y1 e.2.1) y2
  · refine dt_callD (z := some ()) dy (Nat.le_refl _) (c_mp (L := lI lZ 1 y) pm hu l1 hA (Or.inr ⟨⟨w1, y1, c8⟩, rfl⟩)) (Or.inr ⟨_, rfl, fun τ1 ret1 n1 n2 r1 dk1 dy1 => ?_⟩)
    exact ih _ (c + 1) _ _ (v + 1) b' x y6 (by omega) K _ _ _ L2 τ1 dy1 (r1 E' y2 y3 y4) l2 (by omega) (by omega) (by omega)
/-- a proc's params behind the first -/
theorem pr_lp (hu : nc + 1 < 41) : ∀ (f : Nat) (E : En) (c : Nat) (md : Nat → Nat) (q v : Nat) (bt : BT) (x : Option PV6), GPm T n true nc f E c md q v bt = some x → 1 ≤ c → PmK T n b nc al N st E1 vg q0 b0 σ0 X S f_X5_procedure x → ∀ (M a1 a2 : Nat) (L : LV) (τ : CS), Dy b σ0 N a1 a2 τ → PmS T n b nc al 0 N st 0 E1 vg σ0 M E c md q v τ → L.1 1 = nI E1.1.length → uN (L.1 2) + 1 ≤ c → q0 ≤ q → b0 ≤ bt.1 → Tm (fun k => f_X5_procedure k 2 L τ) (DPo b N X S σ0 a1 a2)
  | 0, E, c, md, q, v, bt, x, hG => by cases hG
  | f + 1, E, c, md, q, v, bt, x, hG => by
    intro hc K M a1 a2 L τ dy pm l1 l2 hq hb
    rw [GPm, if_neg (by omega)] at hG
    have c8 := pm.2.1.2
    have h1 := pm.1.1
    have qn : q ≤ n := h1.1.2.2.2.1
    have tb1 := tkN_b T n q qn
    refine Tm_suc (fun k => by rw [f_X5_procedure]) ?_
    refine Tm_no (by rw [u_ltn (by decide) (by omega)]; show ¬ 8 < uN (L.1 2); omega) ?_
    by_cases k12 : tkK T n q = 12
    · rw [if_pos k12] at hG
      refine Tm_yes ((lx_k (kk := 12) h1 (by decide)).2 k12) ?_
      rcases pT_any hG with ⟨z1, z2⟩ | ⟨z1, z2⟩
      · rw [K.1 z2]
        exact dt_callQ (z := none) dy (Nat.le_refl _) (c_advX h1 (Or.inl ⟨z1, rfl⟩)) (Or.inl ⟨rfl, rfl⟩)
      · refine dt_callQ (z := some _) dy (Nat.le_refl _) (c_advX h1 (Or.inr ⟨z1, rfl⟩)) (Or.inr ⟨_, rfl, fun τ1 ret1 n1 n2 q1 xk1 dy1 => ?_⟩)
        have pm1 := PmS_x pm q1 xk1
        have l2' : uN ((lI L 2 (L.1 2 + 1)).1 2) ≤ c := by
          show uN (L.1 2 + 1) ≤ c
          rw [u_inc (by omega)]
          omega
        exact pr_pm hu (pr_lp hu f) z2 K dy1 pm1 (by omega) hb l1 l1 l2'
    · rw [if_neg k12] at hG
      refine Tm_no (fun z => k12 ((lx_k (kk := 12) h1 (by decide)).1 z)) ?_
      by_cases k7 : tkK T n q = 7
      · rw [if_pos k7] at hG
        exact K.2 _ (Option.some.inj hG).symm M a1 a2 L τ dy pm k7 l1 hq hb
      · rw [if_neg k7] at hG
        rw [K.1 (Option.some.inj hG).symm]
        refine Tm_suc (fun k => by rw [f_X5_procedure]) ?_
        exact dt_callQ (z := none) dy (Nat.le_refl _) (c_closesQ (kk := 7) h1 (by decide) rfl (Or.inl ⟨fun e => k7 e.1, rfl⟩)) (Or.inl ⟨rfl, rfl⟩)
end DYJ
