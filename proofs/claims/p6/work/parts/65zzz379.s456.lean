/-! The class: numbers and strings are read. -/
section CVO
variable {σ σ' σ0 τ τ' : CS} {L : LV} {b : Bool} {T : Nat → Int32} {n q q' u al o v mk p sz szB nc0 sz0 mk0 a1 a2 m kk f e t : Nat} {y w : Int32} {l l' cs cs' : List Int32} {tb : List Ent} {α : Type} {S : α → Int32 → CS → Prop} {C : Prop} {E : En} {gl : Nat × (Nat → Nat → Prop)} {Vm : Nat → Prop} {bt : BT}
theorem hd_2x : ∀ m : Nat, m < 33 → ((2 + 16 * m + 65536 * (1 + m)) / 16 % 4096 = m ∧ (2 + 16 * m + 65536 * (1 + m)) / 65536 % 1024 = 1 + m ∧ (2 + 16 * m + 65536 * (1 + m)) / 67108864 = 0 ∧ (2 + 16 * m + 65536 * (1 + m)) % 8 = 2) := by decide +kernel
theorem hd_4x : ∀ m : Nat, m < 101 → ((4 + 16 * m + 65536 * (1 + (m + 3) / 4)) / 16 % 4096 = m ∧ (4 + 16 * m + 65536 * (1 + (m + 3) / 4)) / 65536 % 1024 = 1 + (m + 3) / 4 ∧ (4 + 16 * m + 65536 * (1 + (m + 3) / 4)) / 67108864 = 0 ∧ (4 + 16 * m + 65536 * (1 + (m + 3) / 4)) % 8 = 4) := by decide +kernel
theorem c_rl (h : uN (L.1 1) < 72) : Tm (fun k => y_X10_resultLimb k 0 L σ) (Qs σ) := by
  have b2 : ∀ L' : LV, Tm (fun k => y_X10_resultLimb k 2 L' σ) (Qs σ) := by
    intro L'
    refine Tm_suc (fun k => by rw [y_X10_resultLimb]) ?_
    exact Tm_some rfl
  have b1 : ∀ L' : LV, Tm (fun k => y_X10_resultLimb k 1 L' σ) (Qs σ) := by
    intro L'
    refine Tm_suc (fun k => by rw [y_X10_resultLimb]) ?_
    exact b2 _
  refine Tm_suc (fun k => by rw [y_X10_resultLimb]) ?_
  refine Tm_ite (fun _ => b1 _) (fun c => Tm_ite (fun _ => b1 _) (fun c2 => ?_))
  refine Tm_chk (u_in h (by decide)) ?_
  exact b2 _
theorem c_numQ {bt1 : BT} {x : Option RT} (h : QS T n b u al tb o q v mk p sz σ) (bd : BdX n o q v mk p sz tb.length) (hk : tkK T n q = 27) (hG : gT T n q (fun q1 => some (some (q1, v, 0, bt.1, bt1, []))) = some x) : Tm (fun k => f_X5_number k 0 L σ) (QPo b u tb.length sz mk x (fun r _ τ => XN T n b u al gl Vm tb o mk p sz q v r τ) σ 0 0) := by
  have s0 := Sy_0 h
  have go := tk_go h
  have g1 := go.2.2 (by omega)
  have b22 := bd.2.1
  have n10 := bd.1
  have lx := h.1
  obtain ⟨t1, t2, t3⟩ := tk_dg lx.2.2.2.1 hk
  have tn := (tkN_b T n q lx.2.2.2.1).2.2.1
  have t60 := tk_27 hk
  have cn := lx.1
  -- at the end
  have b3 : ∀ (L' : LV) (τ : CS) (a1 a2 : Nat) (cs : List Int32), Sy T n b u al σ tb.length sz mk a1 a2 tb o q v mk p sz cs τ → Sgm u p gl Vm 1 cs → 2 * cs.length ≤ 3 * (tkE T n q - q) + 1 → Tm (fun k => f_X5_number k 3 L' τ) (QPo b u tb.length sz mk x (fun r _ τ => XN T n b u al gl Vm tb o mk p sz q v r τ) σ a1 a2) := by
    intro L' τ a1 a2 cs s1 sg ln
    refine Tm_suc (fun k => by rw [f_X5_number]) ?_
    refine st_advY s1 (gT_any hG) (fun τ1 r1 er c1 s2 => ?_)
    rw [er, ← Option.some.inj c1]
    refine Tm_some (Qfin s2.1 ⟨_, s2.1.1, s2.2, sg, ?_, g1, Nat.le_refl _, rfl⟩)
    show 2 * cs.length ≤ 3 * (tkN T n q - q) + 1
    omega
  have b1 : ∀ (L' : LV) (τ : CS), Sy T n b u al σ tb.length sz mk 0 0 tb o q v mk p sz [] τ → Tm (fun k => f_X5_number k 1 L' τ) (QPo b u tb.length sz mk x (fun r _ τ => XN T n b u al gl Vm tb o mk p sz q v r τ) σ 0 0) := by
    intro L' τ s1
    refine Tm_suc (fun k => by rw [f_X5_number]) ?_
    refine Tm_oP (Sy_pp s1) ?_
    refine st_emit (op := 33) s1 rfl rfl (by show sz + 0 + 1 ≤ _; omega) (fun τ2 m1 m2 s2 => ?_)
    refine Tm_oP (Sy_pp s2) ?_
    refine Tm_op (P := fun r => r = ((-1610612736) ||| (L'.1 2 &&& 268435455), τ2)) (Tm_suc (fun k => by rw [y_X10_small]; rfl) (Tm_some rfl)) (fun r4 e4 => ?_)
    rw [e4]
    have s2' : Sy T n b u al σ tb.length sz mk (0 + m1) (0 + m2) tb o q v mk p sz [em 33 0] τ2 := s2
    refine st_word s2' rfl (by show sz + 1 + 1 ≤ _; omega) (fun τ3 m3 m4 s3 => ?_)
    exact b3 _ τ3 _ _ _ s3 (Sgm_1 (by show 1 ≤ 2; omega) (by show 1 ≤ 2; omega) (It_li (sm_lit _))) (by show 2 * 2 ≤ _; omega)
  have b2 : ∀ (L' : LV) (τ : CS) (k : Nat), 1 ≤ k → k ≤ 32 → L'.1 1 = nI k → τ.1 404 = nI k → 2 * (k + 2) ≤ 3 * (tkE T n q - q) + 1 → Sy T n b u al σ tb.length sz mk 0 0 tb o q v mk p sz [] τ → Tm (fun k => f_X5_number k 2 L' τ) (QPo b u tb.length sz mk x (fun r _ τ => XN T n b u al gl Vm tb o mk p sz q v r τ) σ 0 0) := by
    intro L' τ k k1 k32 l1 e404 ln s1
    refine Tm_suc (fun k => by rw [f_X5_number]) ?_
    refine Tm_oP (Sy_pp s1) ?_
    refine st_emit (op := 34) s1 rfl rfl (by show sz + 0 + 1 ≤ _; omega) (fun τ2 m1 m2 s2 => ?_)
    refine Tm_oP (Sy_pp s2) ?_
    refine Tm_op (P := fun r => r = (((((((2 : Int32) ||| ((0 : Int32) <<< ((3 : Int32) &&& 31))) ||| (L'.1 1 <<< ((4 : Int32) &&& 31))) ||| ((1 + L'.1 1) <<< ((16 : Int32) &&& 31))) ||| ((0 : Int32) <<< ((26 : Int32) &&& 31)))), τ2)) (Tm_suc (fun k => by rw [y_X1_header]; rfl) (Tm_some rfl)) (fun r4 e4 => ?_)
    rw [e4]
    have hu := hd_2 k (by omega)
    obtain ⟨x1, x2, x3, x4⟩ := hd_2x k (by omega)
    rw [l1]
    generalize (((((2 : Int32) ||| ((0 : Int32) <<< ((3 : Int32) &&& 31))) ||| (nI k <<< ((4 : Int32) &&& 31))) ||| ((1 + nI k) <<< ((16 : Int32) &&& 31))) ||| ((0 : Int32) <<< ((26 : Int32) &&& 31))) = hd0 at *
    have s2' : Sy T n b u al σ tb.length sz mk (0 + m1) (0 + m2) tb o q v mk p sz [em 34 (nI (k + 1))] τ2 := by
      have z : L'.1 1 + 1 = nI (k + 1) := by rw [l1, n_add1]
      rw [← z]; exact s2
    refine st_word s2' rfl (by show sz + 1 + 1 ≤ _; omega) (fun τ3 m3 m4 s3 => ?_)
    have b4 : ∀ (d i : Nat) (L2 : LV) (τ : CS) (a1 a2 : Nat) (bd0 : List Int32), i + d = k → bd0.length = i → L2.1 1 = nI k → L2.1 3 = nI i → Sy T n b u al σ tb.length sz mk a1 a2 tb o q v mk p sz (em 34 (nI (k + 1)) :: hd0 :: bd0) τ → Tm (fun k => f_X5_number k 4 L2 τ) (QPo b u tb.length sz mk x (fun r _ τ => XN T n b u al gl Vm tb o mk p sz q v r τ) σ a1 a2) := by
      intro d
      induction d with
      | zero =>
        intro i L2 τ a1 a2 bd0 hi lb l1 l3 s4
        refine Tm_suc (fun k => by rw [f_X5_number]) ?_
        refine Tm_yes (by rw [l1, l3, n_le (by omega) (by omega)]; omega) ?_
        have it : Itc u p gl Vm 0 1 (em 34 (nI (k + 1)) :: hd0 :: bd0) := It_lc (n := k + 1) (by omega) (by omega) (u_n (by omega)) (by omega) (by unfold hdW; rw [hu, if_neg (by omega)]; unfold hdL; omega) (Or.inl (by unfold hdK; rw [hu]; exact x4)) ⟨by unfold hdT; rw [hu]; omega, by unfold hdS; rw [hu]; omega⟩ (fun _ => by unfold hdL; rw [hu, x1]; exact ⟨by omega, by omega⟩)
        refine b3 _ τ _ _ _ s4 (Sgm_1 ?_ ?_ it) ?_
        · show 1 ≤ bd0.length + 1 + 1; omega
        · show 1 ≤ bd0.length + 1 + 1; omega
        · show 2 * (bd0.length + 1 + 1) ≤ _; omega
      | succ d ih =>
        intro i L2 τ a1 a2 bd0 hi lb l1 l3 s4
        refine Tm_suc (fun k => by rw [f_X5_number]) ?_
        refine Tm_no (by rw [l1, l3, n_le (by omega) (by omega)]; omega) ?_
        refine Tm_oP (Sy_pp s4) ?_
        have t4 : Tm (fun k => y_X10_resultLimb k 0 (lI lZ 1 (L2.1 3)) τ) (Qs τ) := c_rl (by show uN (L2.1 3) < 72; rw [l3, u_n (by omega)]; omega)
        refine Tm_op t4 (fun r3 e3 => ?_)
        have e3' : r3.2 = τ := e3
        rw [e3']
        refine st_word s4 rfl (by show sz + (bd0.length + 1 + 1) + 1 ≤ _; omega) (fun τ5 m5 m6 s5 => ?_)
        refine ih (i + 1) _ τ5 _ _ (bd0 ++ [r3.1]) (by omega) (by rw [List.length_append, lb]; rfl) l1 ?_ s5
        show L2.1 3 + 1 = _
        rw [l3, n_add1]
    exact b4 k 0 _ τ3 _ _ [] (by omega) rfl l1 rfl s3
  refine Tm_suc (fun k => by rw [f_X5_number]) ?_
  have dgs : ∀ i, q ≤ i → i < q + (tkE T n q - q) → ∃ a, a < 10 ∧ σ.2.2.1 38 i = nI (48 + a) := fun i i1 i2 => dg_row lx.2.1 (by omega) (t3 i i1 (by omega))
  have td : Tm (fun k => y_X10_readDigits__z38 k 0 (lI (lI lZ 2 (σ.1 3703)) 3 (σ.1 3704)) σ) _ := c_digits (s0 := q) (d0 := tkE T n q - q) (by have := cn.2.2.2.1; omega) (by show σ.1 3703 = _; exact lx.2.2.2.2.2.2.1) (by show σ.1 3704 = _; rw [lx.2.2.2.2.2.2.2.1]; exact congrArg nI (by omega)) (by omega) (by have := cn.2.2.1; omega) dgs
  refine Tm_op td (fun r1 z1 => ?_)
  obtain ⟨w1, w2, k, w3, k32, dp⟩ := z1
  have s1 : Sy T n b u al σ tb.length sz mk 0 0 tb o q v mk p sz [] r1.2 := Sy_w s0 w1
  have t0 : Tm (fun k => y_X10_resultLimb k 0 (lI lZ 1 0) r1.2) _ := c_limb0 (k := k) (by rw [w2, w3]) k32 rfl
  refine Tm_op t0 (fun r2 z2 => ?_)
  obtain ⟨e2, f2⟩ := z2
  rw [e2, w3]
  by_cases k0 : k = 0
  · refine Tm_yes (by rw [k0]; rfl) ?_
    exact b1 _ _ s1
  refine Tm_no (by rw [n_eq0 (by omega)]; exact k0) ?_
  have lim : ¬ (k = 1 ∧ 0 ≤ uN r2.1 ∧ uN r2.1 < 134217728) → 2 * (k + 2) ≤ 3 * (tkE T n q - q) + 1 := by
    intro hz
    obtain ⟨d1, d2⟩ := dp
    rcases Nat.lt_or_ge 2 (tkE T n q - q) with z | z
    · omega
    · obtain ⟨d3, d4⟩ := d2 z
      have k1 : k = 1 := Nat.le_antisymm d3 (Nat.pos_of_ne_zero k0)
      obtain ⟨a, a1, a2⟩ := d4 k1
      exfalso
      apply hz
      rw [f2 (by omega), a2]
      have a100 : a < 100 := by
        split at a1 <;> omega
      rw [u_n (by omega)]
      exact ⟨k1, by omega, by omega⟩
  have e404 : r1.2.1 404 = nI k := by rw [w2, w3]
  by_cases k1 : k = 1
  · refine Tm_yes (by rw [k1]; rfl) ?_
    refine Tm_ite (fun c1 => ?_) (fun c1 => Tm_ite (fun c2 => ?_) (fun c2 => ?_))
    · rw [u_neg] at c1
      exact b2 _ _ k (by omega) k32 rfl e404 (lim (fun z => by omega)) s1
    · rw [u_neg] at c1
      rw [u_le (by decide) (by omega)] at c2
      have c2' : 134217728 ≤ uN r2.1 := c2
      exact b2 _ _ k (by omega) k32 rfl e404 (lim (fun z => by omega)) s1
    · exact b1 _ _ s1
  · refine Tm_no (fun z => k1 ?_) ?_
    · have z' : nI k = nI 1 := z
      rw [n_eq (by omega) (by decide)] at z'
      exact z'
    · exact b2 _ _ k (by omega) k32 rfl e404 (lim (fun z => by omega)) s1
theorem c_strQ {bt1 : BT} {x : Option RT} (h : QS T n b u al tb o q v mk p sz σ) (bd : BdX n o q v mk p sz tb.length) (hk : tkK T n q = 28) (hG : gT T n q (fun q1 => some (some (q1, v, 0, bt.1, bt1, []))) = some x) : Tm (fun k => f_X5_string k 0 L σ) (QPo b u tb.length sz mk x (fun r _ τ => XN T n b u al gl Vm tb o mk p sz q v r τ) σ 0 0) := by
  have s0 := Sy_0 h
  have go := tk_go h
  have g1 := go.2.2 (by omega)
  have b22 := bd.2.1
  have n10 := bd.1
  have lx := h.1
  obtain ⟨t1, t2, t3⟩ := tk_st lx.2.2.2.1 hk
  have tn := (tkN_b T n q lx.2.2.2.1).2.2.1
  have cn := lx.1
  -- at the end
  have b5 : ∀ (L' : LV) (τ : CS) (a1 a2 : Nat) (cs : List Int32), Sy T n b u al σ tb.length sz mk a1 a2 tb o q v mk p sz cs τ → Sgm u p gl Vm 1 cs → 2 * cs.length ≤ 3 * (tkE T n q - q) + 1 → Tm (fun k => f_X5_string k 5 L' τ) (QPo b u tb.length sz mk x (fun r _ τ => XN T n b u al gl Vm tb o mk p sz q v r τ) σ a1 a2) := by
    intro L' τ a1 a2 cs s1 sg ln
    refine Tm_suc (fun k => by rw [f_X5_string]) ?_
    refine st_advY s1 (gT_any hG) (fun τ1 r1 er c1 s2 => ?_)
    rw [er, ← Option.some.inj c1]
    refine Tm_some (Qfin s2.1 ⟨_, s2.1.1, s2.2, sg, ?_, g1, Nat.le_refl _, rfl⟩)
    show 2 * cs.length ≤ 3 * (tkN T n q - q) + 1
    omega
  have b3 : ∀ (L' : LV) (τ : CS) (a1 a2 : Nat), L'.2.2.1 101 = b → LitG (L'.1 100) → Sy T n b u al σ tb.length sz mk a1 a2 tb o q v mk p sz [em 33 0] τ → Tm (fun k => f_X5_string k 3 L' τ) (QPo b u tb.length sz mk x (fun r _ τ => XN T n b u al gl Vm tb o mk p sz q v r τ) σ a1 a2) := by
    intro L' τ a1 a2 lb lg s2
    refine Tm_suc (fun k => by rw [f_X5_string]) ?_
    refine st_word s2 lb (by show sz + 1 + 1 ≤ _; omega) (fun τ3 m3 m4 s3 => ?_)
    exact b5 _ τ3 _ _ _ s3 (Sgm_1 (by show 1 ≤ 2; omega) (by show 1 ≤ 2; omega) (It_li lg)) (by show 2 * 2 ≤ _; omega)
  have e3 : σ.1 3703 = nI q := lx.2.2.2.2.2.2.1
  have e4 : σ.1 3704 = nI (tkE T n q) := lx.2.2.2.2.2.2.2.1
  have el : σ.1 3704 - 1 - (σ.1 3703 + 1) = nI (tkE T n q - 2 - q) := by
    rw [e3, e4, n_add1, show (1 : Int32) = nI 1 from rfl, n_sub (by omega) (by omega), n_sub (by omega) (by omega)]
    exact congrArg nI (by omega)
  have e1 : σ.1 3703 + 1 = nI (q + 1) := by rw [e3, n_add1]
  generalize hm : tkE T n q - 2 - q = m at *
  refine Tm_suc (fun k => by rw [f_X5_string]) ?_
  rw [el, e1]
  by_cases c1 : 1 < m
  · refine Tm_yes (by show nI 1 < nI m; rw [n_lt (by decide) (by omega)]; exact c1) ?_
    obtain ⟨hw, hw2, hu⟩ := hd_4 m (by omega)
    obtain ⟨x1, x2, x3, x4⟩ := hd_4x m (by omega)
    refine Tm_suc (fun k => by rw [f_X5_string]) ?_
    refine Tm_oP (Sy_pp s0) ?_
    refine st_emit (op := 34) s0 rfl rfl (by show sz + 0 + 1 ≤ _; omega) (fun τ2 m1 m2 s2 => ?_)
    refine Tm_oP (Sy_pp s2) ?_
    refine Tm_op (P := fun r => r = (((((((4 : Int32) ||| ((0 : Int32) <<< ((3 : Int32) &&& 31))) ||| (nI m <<< ((4 : Int32) &&& 31))) ||| ((1 + ((nI m + 3) >>> ((2 : Int32) &&& 31))) <<< ((16 : Int32) &&& 31))) ||| ((0 : Int32) <<< ((26 : Int32) &&& 31)))), τ2)) (Tm_suc (fun k => by rw [y_X1_header]; rfl) (Tm_some rfl)) (fun r4 e4' => ?_)
    rw [e4', hw]
    generalize (((((4 : Int32) ||| ((0 : Int32) <<< ((3 : Int32) &&& 31))) ||| (nI m <<< ((4 : Int32) &&& 31))) ||| ((1 + nI ((m + 3) / 4)) <<< ((16 : Int32) &&& 31))) ||| ((0 : Int32) <<< ((26 : Int32) &&& 31))) = hd0 at *
    have s2' : Sy T n b u al σ tb.length sz mk (0 + m1) (0 + m2) tb o q v mk p sz [em 34 (nI ((m + 3) / 4 + 1))] τ2 := by
      have z : (nI m + 3) >>> ((2 : Int32) &&& 31) + 1 = nI ((m + 3) / 4 + 1) := by rw [hw, n_add1]
      rw [← z]; exact s2
    refine st_word s2' rfl (by show sz + 1 + 1 ≤ _; omega) (fun τ3 m3 m4 s3 => ?_)
    -- bytes are laid into the words
    have b7 : ∀ (d i : Nat) (L2 : LV) (τ : CS) (a1 a2 : Nat) (bd0 : List Int32), i + d = m → bd0.length = (m + 3) / 4 → L2.1 1 = nI (q + 1) → L2.1 2 = nI m → L2.1 4 = nI (sz + 1) → L2.1 5 = nI i → Sy T n b u al σ tb.length sz mk a1 a2 tb o q v mk p sz (em 34 (nI ((m + 3) / 4 + 1)) :: hd0 :: bd0) τ → Tm (fun k => f_X5_string k 7 L2 τ) (QPo b u tb.length sz mk x (fun r _ τ => XN T n b u al gl Vm tb o mk p sz q v r τ) σ a1 a2) := by
      intro d
      induction d with
      | zero =>
        intro i L2 τ a1 a2 bd0 hi lb l1 l2 l4 l5 s4
        refine Tm_suc (fun k => by rw [f_X5_string]) ?_
        refine Tm_yes (by rw [l2, l5, n_le (by omega) (by omega)]; omega) ?_
        have it : Itc u p gl Vm 0 1 (em 34 (nI ((m + 3) / 4 + 1)) :: hd0 :: bd0) := It_lc (n := (m + 3) / 4 + 1) (by omega) (by omega) (u_n (by omega)) (by omega) (by unfold hdW; rw [hu, if_pos x4]; unfold hdL; rw [x1]; omega) (Or.inr (by unfold hdK; rw [hu]; exact x4)) ⟨by unfold hdT; rw [hu]; omega, by unfold hdS; rw [hu]; omega⟩ (fun z => by unfold hdK at z; rw [hu, x4] at z; exact absurd z (by decide))
        refine b5 _ τ _ _ _ s4 (Sgm_1 ?_ ?_ it) ?_
        · show 1 ≤ bd0.length + 1 + 1; omega
        · show 1 ≤ bd0.length + 1 + 1; omega
        · show 2 * (bd0.length + 1 + 1) ≤ _; omega
      | succ d ih =>
        intro i L2 τ a1 a2 bd0 hi lb l1 l2 l4 l5 s4
        refine Tm_suc (fun k => by rw [f_X5_string]) ?_
        refine Tm_no (by rw [l2, l5, n_le (by omega) (by omega)]; omega) ?_
        refine Tm_oP (Sy_pp s4) ?_
        have hs := (hd_4 i (by omega)).2.1
        have ix : L2.1 4 + 1 + L2.1 5 >>> ((2 : Int32) &&& 31) = nI (sz + (2 + i / 4)) := by
          rw [l4, l5, hs, n_add1, n_add (by omega)]
          exact congrArg nI (by omega)
        have lc : (em 34 (nI ((m + 3) / 4 + 1)) :: hd0 :: bd0).length = bd0.length + 1 + 1 := rfl
        have cl := s4.1.1.2.1.2.1
        rw [lc] at cl
        have cb := cdn_b s4.1.1
        have i38 : L2.1 1 + L2.1 5 = nI (q + 1 + i) := by rw [l1, l5, n_add (by omega)]
        have tl := s4.1.1.1.1.2.2.1
        have tl2 := s4.1.1.1.1.2.2.2.1
        have iin : ¬ (nI (sz + (2 + i / 4)) < 0 ∨ cdn b τ ≤ (nI (sz + (2 + i / 4))).toNatClampNeg) := u_in (by rw [u_n (by omega)]; omega) (by omega)
        rw [ix, i38]
        refine Tm_chk iin ?_
        refine Tm_chk (u_in (by rw [u_n (by omega)]; omega) (by omega)) ?_
        refine Tm_chk iin ?_
        rw [n_cl (p := sz + (2 + i / 4)) (by omega)]
        generalize (τ.2.2.1 (pR0 (sKd τ b)) (sz + (2 + i / 4)) ||| ((τ.2.2.1 38 (nI (q + 1 + i)).toNatClampNeg &&& 255) <<< (((L2.1 5 &&& 3) <<< ((3 : Int32) &&& 31)) &&& 31))) = w
        have s5 := Sy_set s4 (Nat.le_refl _) (h := 2 + i / 4) (by rw [lc]; omega) w
        have es : (em 34 (nI ((m + 3) / 4 + 1)) :: hd0 :: bd0).set (2 + i / 4) w = em 34 (nI ((m + 3) / 4 + 1)) :: hd0 :: bd0.set (i / 4) w := by
          rw [Nat.add_comm 2 (i / 4)]; rfl
        rw [es] at s5
        refine ih (i + 1) _ _ _ _ (bd0.set (i / 4) w) (by omega) (by rw [List.length_set, lb]) l1 l2 l4 ?_ s5
        show L2.1 5 + 1 = _
        rw [l5, n_add1]
    -- words are laid
    have b4 : ∀ (d i : Nat) (L2 : LV) (τ : CS) (a1 a2 : Nat) (bd0 : List Int32), i + d = (m + 3) / 4 → bd0.length = i → L2.1 1 = nI (q + 1) → L2.1 2 = nI m → L2.1 3 = nI ((m + 3) / 4) → L2.1 4 = nI (sz + 1) → L2.1 5 = nI i → Sy T n b u al σ tb.length sz mk a1 a2 tb o q v mk p sz (em 34 (nI ((m + 3) / 4 + 1)) :: hd0 :: bd0) τ → Tm (fun k => f_X5_string k 4 L2 τ) (QPo b u tb.length sz mk x (fun r _ τ => XN T n b u al gl Vm tb o mk p sz q v r τ) σ a1 a2) := by
      intro d
      induction d with
      | zero =>
        intro i L2 τ a1 a2 bd0 hi lb l1 l2 l3 l4 l5 s4
        refine Tm_suc (fun k => by rw [f_X5_string]) ?_
        refine Tm_yes (by rw [l3, l5, n_le (by omega) (by omega)]; omega) ?_
        refine Tm_suc (fun k => by rw [f_X5_string]) ?_
        exact b7 m 0 _ τ _ _ bd0 (by omega) (by omega) l1 l2 l4 rfl s4
      | succ d ih =>
        intro i L2 τ a1 a2 bd0 hi lb l1 l2 l3 l4 l5 s4
        refine Tm_suc (fun k => by rw [f_X5_string]) ?_
        refine Tm_no (by rw [l3, l5, n_le (by omega) (by omega)]; omega) ?_
        refine Tm_oP (Sy_pp s4) ?_
        refine st_word s4 rfl (by show sz + (bd0.length + 1 + 1) + 1 ≤ _; omega) (fun τ5 m5 m6 s5 => ?_)
        have s5' : Sy T n b u al σ tb.length sz mk (a1 + m5) (a2 + m6) tb o q v mk p sz (em 34 (nI ((m + 3) / 4 + 1)) :: hd0 :: (bd0 ++ [(0 : Int32)])) τ5 := s5
        refine ih (i + 1) _ τ5 _ _ (bd0 ++ [(0 : Int32)]) (by omega) (by rw [List.length_append, lb]; rfl) l1 l2 l3 l4 ?_ s5'
        show L2.1 5 + 1 = _
        rw [l5, n_add1]
    exact b4 ((m + 3) / 4) 0 _ τ3 _ _ [] (by omega) rfl rfl rfl hw rfl rfl s3
  · refine Tm_no (by show ¬ nI 1 < nI m; rw [n_lt (by decide) (by omega)]; exact c1) ?_
    refine Tm_oP (Sy_pp s0) ?_
    refine st_emit (op := 33) s0 rfl rfl (by show sz + 0 + 1 ≤ _; omega) (fun τ2 m1 m2 s2 => ?_)
    refine Tm_oP (Sy_pp s2) ?_
    by_cases m0 : m = 0
    · refine Tm_yes (by rw [m0]; rfl) ?_
      exact b3 _ τ2 _ _ rfl (Or.inr (by show uN 0 < 3; decide)) s2
    · refine Tm_no (by rw [n_eq0 (by omega)]; exact m0) ?_
      refine Tm_suc (fun k => by rw [f_X5_string]) ?_
      have tl := s2.1.1.1.1.2.2.1
      have tl2 := s2.1.1.1.1.2.2.2.1
      refine Tm_chk (u_in (by show uN (nI (q + 1)) < _; rw [u_n (by omega)]; show q + 1 < sN τ2 38; omega) (by show sN τ2 38 ≤ _; omega)) ?_
      exact b3 _ τ2 _ _ rfl (by_lit _) s2
end CVO
