/-! The class: the loop of an exp. -/
section CWD
variable {σ0 τ : CS} {L : LV} {b : Bool} {T : Nat → Int32} {n q q0 v0 u al o v mk p sz a1 a2 f e o0 ls lv : Nat} {cs : List Int32} {tb : List Ent} {C : Prop} {E : En} {gl : Nat × (Nat → Nat → Prop)} {Vm : Nat → Prop} {bt : BT} {xF : Option RT} {s : List Wt}
/-- where an exp begins: bounds -/
def XB (n o0 q0 v0 mk p sz nt ls e : Nat) : Prop := BdX n o0 q0 v0 mk p sz nt ∧ (ls = 0 ∨ ls = 4) ∧ 6 * (20 - o0) + 8 ≤ e + 6
/-- before an operand -/
def HdS (T : Nat → Int32) (n : Nat) (b : Bool) (u al : Nat) (σ0 : CS) (tb : List Ent) (gl : Nat × (Nat → Nat → Prop)) (Vm : Nat → Prop) (o0 mk p sz q0 v0 ls a1 a2 : Nat) (s : List Wt) (q v : Nat) (cs : List Int32) (L : LV) (τ : CS) : Prop := WA T n b u al σ0 tb gl Vm o0 mk p sz a1 a2 s q v cs 0 τ ∧ (2 * (cs.length + wP s) ≤ 3 * (q - q0) ∧ 3 * wU s ≤ 2 * (q - q0) ∧ q0 ≤ q ∧ v0 ≤ v) ∧ (L.1 1 = nI ls ∧ L.1 2 = nI mk ∧ L.1 5 = 1) ∧ (∃ k, L.1 6 = nI k ∧ k ≤ wO s) ∧ ∃ i, L.1 4 = nI i ∧ i ≤ q
/-- behind an operand -/
def AfS (T : Nat → Int32) (n : Nat) (b : Bool) (u al : Nat) (σ0 : CS) (tb : List Ent) (gl : Nat × (Nat → Nat → Prop)) (Vm : Nat → Prop) (o0 mk p sz q0 v0 ls a1 a2 : Nat) (s : List Wt) (q v : Nat) (cs : List Int32) (L : LV) (τ : CS) : Prop := WA T n b u al σ0 tb gl Vm o0 mk p sz a1 a2 s q v cs 1 τ ∧ (2 * (cs.length + wP s) ≤ 3 * (q - q0) + 1 ∧ 3 * wU s + 2 ≤ 2 * (q - q0) ∧ q0 < q ∧ v0 ≤ v) ∧ (L.1 1 = nI ls ∧ L.1 2 = nI mk) ∧ ∃ i, L.1 4 = nI i ∧ i < q
/-- what is looked at there -/
def AfT (e : Nat) (L : LV) (τ : CS) (k : Nat) : Option RS := op (y_X5_level k 0 (lI lZ 0 (τ.1 3702)) τ) (fun r2 => if r2.1 < L.1 1 then f_F2 k (e + 6) 1 5 (lI L 6 r2.1) r2.2 else f_F2 k (e + 6) 1 6 (lI (lI L 6 r2.1) 100 1) r2.2)
abbrev Xq (T : Nat → Int32) (n : Nat) (b : Bool) (u al : Nat) (σ0 : CS) (tb : List Ent) (gl : Nat × (Nat → Nat → Prop)) (Vm : Nat → Prop) (o0 mk p sz q0 v0 : Nat) (xF : Option RT) (a1 a2 : Nat) : RS → Prop := QPo b u tb.length sz mk xF (fun r _ τ => XR T n b u al gl Vm tb o0 mk p sz q0 v0 r τ) σ0 a1 a2
theorem ep_0 (k d : Nat) (L : LV) (σ : CS) : f_F2 (k + 1) d 1 0 L σ = (f_F2 k d 1 1 (lI (lI (lI L 2 ((σ.1 4011))) 3 1) 4 0) σ) := rfl
theorem ep_1 (k d : Nat) (L : LV) (σ : CS) : f_F2 (k + 1) d 1 1 L σ = (if 32768 < ((L.1 4)) then (f_F2 k d 1 2 L σ) else (if ((L.1 3)) = 0 then (f_F2 k d 1 2 L σ) else (f_F2 k d 1 3 (lI (lI L 5 1) 6 0) σ))) := rfl
theorem ep_2 (k d : Nat) (L : LV) (σ : CS) : f_F2 (k + 1) d 1 2 L σ = (ox (f_X5_settle k 0 (lI (lI lZ 1 ((L.1 2))) 2 0) σ) (fun r1 => some ((0, 0), r1.2.1, (0, 0)))) := rfl
theorem ep_3 (k d : Nat) (L : LV) (σ : CS) : f_F2 (k + 1) d 1 3 L σ = (if 20 < ((L.1 6)) then (f_F2 k d 1 4 L σ) else (if ((L.1 5)) = 0 then (f_F2 k d 1 4 L σ) else (ox (f_X5_prefix k 0 (lI (lI lZ 1 ((L.1 2))) 2 ((L.1 1))) σ) (fun r3 => f_F2 k d 1 3 (lI (lI L 5 r3.1.2) 6 ((((L.1 6)) + 1))) r3.2.1)))) := rfl
theorem ep_4 (k d : Nat) (L : LV) (σ : CS) : f_F2 (k + 1) d 1 4 L σ = (of d (fun e1 => ox (f_F2 k e1 8 0 lZ σ) (fun r1 => op (y_X5_level k 0 (lI lZ 0 ((r1.2.1.1 3702))) r1.2.1) (fun r2 => if r2.1 < ((L.1 1)) then (f_F2 k d 1 5 (lI L 6 r2.1) r2.2) else (f_F2 k d 1 6 (lI (lI L 6 r2.1) 100 1) r2.2))))) := rfl
theorem ep_5 (k d : Nat) (L : LV) (σ : CS) : f_F2 (k + 1) d 1 5 L σ = (f_F2 k d 1 6 (lI L 100 0) σ) := rfl
theorem ep_6 (k d : Nat) (L : LV) (σ : CS) : f_F2 (k + 1) d 1 6 L σ = (if ((L.1 100)) = 0 then (f_F2 k d 1 7 (lI L 3 ((L.1 100))) σ) else (if ((L.1 6)) = 3 then (f_F2 k d 1 8 L σ) else (if ((L.1 6)) = 6 then (f_F2 k d 1 8 L σ) else (f_F2 k d 1 9 L σ)))) := rfl
theorem ep_7 (k d : Nat) (L : LV) (σ : CS) : f_F2 (k + 1) d 1 7 L σ = (if ((L.1 3)) = 0 then (f_F2 k d 1 10 (lI L 7 ((σ.1 3702))) σ) else (if ((L.1 6)) = 6 then (ox (f_X5_opens k 0 lZ σ) (fun r3 => f_F2 k d 1 11 (lI L 7 ((σ.1 3702))) r3.2.1)) else (f_F2 k d 1 10 (lI L 7 ((σ.1 3702))) σ))) := rfl
theorem ep_8 (k d : Nat) (L : LV) (σ : CS) : f_F2 (k + 1) d 1 8 L σ = (f_F2 k d 1 12 (lI L 100 1) σ) := rfl
theorem ep_9 (k d : Nat) (L : LV) (σ : CS) : f_F2 (k + 1) d 1 9 L σ = (f_F2 k d 1 12 (lI L 100 0) σ) := rfl
theorem ep_10 (k d : Nat) (L : LV) (σ : CS) : f_F2 (k + 1) d 1 10 L σ = (if ((L.1 3)) = 0 then (f_F2 k d 1 11 L σ) else (ox (f_X2_advance k 0 lZ σ) (fun r2 => f_F2 k d 1 11 L r2.2.1))) := rfl
theorem ep_11 (k d : Nat) (L : LV) (σ : CS) : f_F2 (k + 1) d 1 11 L σ = (if ((L.1 3)) = 0 then (f_F2 k d 1 13 L σ) else (if 1 < ((L.1 6)) then (f_F2 k d 1 13 L σ) else (oP (sPp σ) (fun b3 => if ((L.1 6)) = 0 then (f_F2 k d 1 15 (lI (lI (lB (lI L 100 7) 101 b3) 102 8) 103 ((L.1 6))) σ) else (f_F2 k d 1 14 (lI (lI (lB L 100 b3) 101 8) 102 ((L.1 6))) σ))))) := rfl
theorem ep_12 (k d : Nat) (L : LV) (σ : CS) : f_F2 (k + 1) d 1 12 L σ = (if ((L.1 100)) = 0 then (f_F2 k d 1 16 (lI L 100 ((L.1 2))) σ) else (f_F2 k d 1 17 (lI (lI L 100 ((((L.1 6)) + 1))) 101 ((L.1 2))) σ)) := rfl
theorem ep_13 (k d : Nat) (L : LV) (σ : CS) : f_F2 (k + 1) d 1 13 L σ = (if ((L.1 3)) = 0 then (f_F2 k d 1 18 L σ) else (op (y_X5_binaryOp k 0 (lI lZ 0 ((L.1 7))) σ) (fun r2 => ox (f_X5_postpone k 0 (lI (lI (lI lZ 1 ((L.1 6))) 2 r2.1) 3 0) r2.2) (fun r3 => f_F2 k d 1 18 L r3.2.1)))) := rfl
theorem ep_14 (k d : Nat) (L : LV) (σ : CS) : f_F2 (k + 1) d 1 14 L σ = (f_F2 k d 1 15 (lI (lI (lB (lI L 100 6) 101 ((L.2.2.1 100))) 102 ((L.1 101))) 103 ((L.1 102))) σ) := rfl
theorem ep_15 (k d : Nat) (L : LV) (σ : CS) : f_F2 (k + 1) d 1 15 L σ = (ox (f_X7_emit__P k 0 (lI (lI (lB lZ 0 ((L.2.2.1 101))) 1 ((L.1 100))) 2 0) σ) (fun r1 => ox (f_X5_postpone k 0 (lI (lI (lI lZ 1 ((L.1 103))) 2 ((L.1 102))) 3 r1.1.2) r1.2.1) (fun r2 => f_F2 k d 1 18 L r2.2.1))) := rfl
theorem ep_16 (k d : Nat) (L : LV) (σ : CS) : f_F2 (k + 1) d 1 16 L σ = (f_F2 k d 1 17 (lI (lI L 100 ((L.1 6))) 101 ((L.1 100))) σ) := rfl
theorem ep_17 (k d : Nat) (L : LV) (σ : CS) : f_F2 (k + 1) d 1 17 L σ = (ox (f_X5_settle k 0 (lI (lI lZ 1 ((L.1 101))) 2 ((L.1 100))) σ) (fun r1 => if ((L.1 6)) = 3 then (op (y_X5_postponedLevel k 0 (lI lZ 1 ((L.1 2))) r1.2.1) (fun r3 => if r3.1 = 3 then (f_F2 k d 1 20 L r3.2) else (f_F2 k d 1 19 L r3.2))) else (f_F2 k d 1 19 L r1.2.1))) := rfl
theorem ep_18 (k d : Nat) (L : LV) (σ : CS) : f_F2 (k + 1) d 1 18 L σ = (f_F2 k d 1 1 (lI L 4 ((((L.1 4)) + 1))) σ) := rfl
theorem ep_19 (k d : Nat) (L : LV) (σ : CS) : f_F2 (k + 1) d 1 19 L σ = (f_F2 k d 1 21 (lI L 100 1) σ) := rfl
theorem ep_20 (k d : Nat) (L : LV) (σ : CS) : f_F2 (k + 1) d 1 20 L σ = (f_F2 k d 1 21 (lI L 100 0) σ) := rfl
theorem ep_21 (k d : Nat) (L : LV) (σ : CS) : f_F2 (k + 1) d 1 21 L σ = (f_F2 k d 1 7 (lI L 3 ((L.1 100))) σ) := rfl
/-- no prefix stands here: the operand is read -/
theorem st_oper {x : Option RT} (xb : XB n o0 q0 v0 mk p sz tb.length ls e) (px : ∀ f', f' < f → ∀ e', PXp T n b u al f' e') (ev : EvX E b u al gl Vm tb σ0) (hd : HdS T n b u al σ0 tb gl Vm o0 mk p sz q0 v0 ls a1 a2 s q v cs L τ) (h66 : tkK T n q = 66 → ¬ topL ls s ≤ 2) (hk : ¬ (tkK T n q = 2 ∨ tkK T n q = 3 ∨ tkK T n q = 4 ∨ tkK T n q = 23 ∨ tkK T n q = 80 ∨ tkK T n q = 81)) (hG : gb (G T n f 13 E (o0 + wO s) q v 0 0 0 0 bt) (fun r => G T n f 12 E (o0 + wO s) r.1 r.2.1 r.2.2.1 r.2.2.2.1 0 0 r.2.2.2.2.1) = some x) (hn : x = none → xF = none) (cont : ∀ r, x = some r → ∀ (cs' : List Int32) (n1 n2 : Nat) (L' : LV) (τ' : CS), AfS T n b u al σ0 tb gl Vm o0 mk p sz q0 v0 ls n1 n2 s r.1 r.2.1 cs' L' τ' → (r.2.2.1 = 0 ∨ ¬ q = q0 → ¬ τ'.1 4016 = nI q0) → (¬ r.2.2.1 = 0 ∧ q = q0 → TgI T n u p gl Vm tb q0 sz mk cs' r.2.2.1 τ') → Tm (fun k => AfT e L' τ' k) (Xq T n b u al σ0 tb gl Vm o0 mk p sz q0 v0 xF n1 n2)) : Tm (fun k => f_F2 k (e + 6) 1 3 L τ) (Xq T n b u al σ0 tb gl Vm o0 mk p sz q0 v0 xF a1 a2) := by
  obtain ⟨wa, ⟨c1, c2, c3, c4⟩, ⟨l1, l2, l5⟩, ⟨k0, l6, k6⟩, i0, l4, i4⟩ := hd
  obtain ⟨⟨n10, b22, b33, b44, b55⟩, hls, hde⟩ := xb
  have o20 := wa.1.1.1.2.2.2.2.2.1.2
  have wc := w_cnt s
  have qn := (tk_go wa.1.1.1).1
  have m41 := wa.1.1.1.2.2.1.2
  -- the operand
  have b4 : ∀ (L2 : LV) (n1 n2 : Nat), L2.1 1 = nI ls → L2.1 2 = nI mk → L2.1 4 = nI i0 → WA T n b u al σ0 tb gl Vm o0 mk p sz n1 n2 s q v cs 0 τ → Tm (fun k => f_F2 k (e + 6) 1 4 L2 τ) (Xq T n b u al σ0 tb gl Vm o0 mk p sz q0 v0 xF n1 n2) := by
    intro L2 n1 n2 g1 g2 g4 wa
    refine Tm_suc (fun k => ep_4 k _ _ _) ?_
    refine Tm_d ?_
    have bdo : BdX n (o0 + wO s) q v (mk + 3 * s.length) p (sz + cs.length) tb.length := ⟨n10, by omega, by omega, by omega, by omega⟩
    refine st_call (C := True) wa.1.1 (c_operand px wa.1.1.1 (EvX_k ev wa.1.1.2.1) bdo hG (fun z => by omega)) ?_
    rcases x with _ | r
    · exact Or.inl ⟨rfl, hn rfl⟩
    refine Or.inr ⟨r, rfl, trivial, fun τ3 ret3 m3 m4 hr xk3 hc3 => ?_⟩
    obtain ⟨⟨ll, i1, i2, sg, ln, lt, lv, tg⟩, t16⟩ := hr
    have s3 := Sy_ca wa.1 i1 xk3 hc3 i2 (Nat.le_refl _) (Nat.le_add_right _ _)
    have q3n := (tk_go s3.1.1).1
    have la : (cs ++ ll).length = cs.length + ll.length := List.length_append
    have wa3 : WA T n b u al σ0 tb gl Vm o0 mk p sz (n1 + m3) (n2 + m4) s r.1 r.2.1 (cs ++ ll) 1 τ3 := ⟨s3, MkW_k s mk (fun i hi => xk3.2.2.2.2.2.2.1 i hi) wa.2.1, wOk_ap s wa.2.2.1, Ph_sg wa.2.2.2 sg⟩
    refine cont r rfl (cs ++ ll) _ _ L2 τ3 ⟨wa3, ⟨by rw [la]; omega, by omega, by omega, by omega⟩, ⟨g1, g2⟩, i0, g4, by omega⟩ (fun z w => ?_) (fun z => ?_)
    · by_cases c : r.2.2.1 = 0
      · rw [t16 c] at w
        exact n_mn (k := q0) (by omega) w.symm
      · have y := (tg.2 c).1.1
        rw [y, n_eq (by omega) (by omega)] at w
        rcases z with z | z
        · exact c z
        · exact z w
    · obtain ⟨z1, z2⟩ := z
      have e1 : cs.length = 0 := by omega
      have e2 : s.length = 0 := by omega
      have e3 : cs = [] := List.eq_nil_of_length_eq_zero e1
      rw [z2, e1, e2] at tg
      rw [e3]
      exact tg
  refine Tm_suc (fun k => ep_3 k _ _ _) ?_
  refine Tm_no ?_ ?_
  · rw [l6]
    show ¬ nI 20 < nI k0
    rw [n_lt (by decide) (by omega)]; omega
  refine Tm_no (by rw [l5]; decide) ?_
  refine Tm_ox (c_pfNo wa (by omega) (by omega) l2 l1 h66 hk) (fun r w nz => absurd (by rw [w]) nz) (fun r w _ => ?_)
  rw [w]
  refine Tm_mono ?_ (fun q z => QPo_s (n1 := 0) (n2 := 0) z)
  refine Tm_suc (fun k => ep_3 k _ _ _) ?_
  refine Tm_ite (fun _ => b4 _ _ _ l1 l2 l4 wa) (fun _ => ?_)
  refine Tm_yes rfl ?_
  exact b4 _ _ _ l1 l2 l4 wa
/-- the level that is settled before an operator -/
def spL (lv : Nat) : Nat := if lv = 3 ∨ lv = 6 then lv + 1 else lv
theorem kl_65 {k : Nat} (h : kl k = 1) : k = 65 := by
  unfold kl at h
  by_cases c1 : k = 65
  · exact c1
  rw [if_neg c1] at h
  by_cases c2 : k = 64
  · rw [if_pos c2] at h; omega
  rw [if_neg c2] at h
  by_cases c3 : isRl k
  · rw [if_pos c3] at h; omega
  rw [if_neg c3] at h
  by_cases c4 : k = 2 ∨ k = 3
  · rw [if_pos c4] at h; omega
  rw [if_neg c4] at h
  by_cases c5 : k = 4 ∨ k = 67 ∨ k = 68
  · rw [if_pos c5] at h; omega
  rw [if_neg c5] at h
  by_cases c6 : k = 5
  · rw [if_pos c6] at h; omega
  rw [if_neg c6] at h; omega
theorem kl_64 {k : Nat} (h : kl k = 2) : k = 64 := by
  unfold kl at h
  by_cases c1 : k = 65
  · rw [if_pos c1] at h; omega
  rw [if_neg c1] at h
  by_cases c2 : k = 64
  · exact c2
  rw [if_neg c2] at h
  by_cases c3 : isRl k
  · rw [if_pos c3] at h; omega
  rw [if_neg c3] at h
  by_cases c4 : k = 2 ∨ k = 3
  · rw [if_pos c4] at h; omega
  rw [if_neg c4] at h
  by_cases c5 : k = 4 ∨ k = 67 ∨ k = 68
  · rw [if_pos c5] at h; omega
  rw [if_neg c5] at h
  by_cases c6 : k = 5
  · rw [if_pos c6] at h; omega
  rw [if_neg c6] at h; omega
theorem kl_25 {k : Nat} (h : ¬ kl k = 0) : ¬ k = 25 := fun z => by
  rw [z] at h; exact h (by decide)
/-- an operator between two operands is taken -/
theorem st_opr (S' S0 : List Wt) (xb : XB n o0 q0 v0 mk p sz tb.length ls e) (af : AfS T n b u al σ0 tb gl Vm o0 mk p sz q0 v0 ls a1 a2 (S' ++ S0) q v cs L τ) (hk : kl (tkK T n q) = lv + 1) (hlv : ls ≤ lv) (ha : ∀ e, e ∈ S' → spL lv ≤ e.1) (hb : ∀ e s, S0 = e :: s → e.1 < spL lv) (h3 : lv = 3 → ∀ e s, S0 = e :: s → ¬ e.1 = 3) (hx : (¬ ((lv = 6 → ¬ o0 + wO S0 = 20) ∧ ¬ tkK T n (tkN T n q) = 0) ∧ xF = none) ∨ (((lv = 6 → ¬ o0 + wO S0 = 20) ∧ ¬ tkK T n (tkN T n q) = 0) ∧ C)) (cont : C → ∀ (op mo : Nat) (cs' : List Int32) (n1 n2 : Nat) (L' : LV) (τ' : CS), HdS T n b u al σ0 tb gl Vm o0 mk p sz q0 v0 ls n1 n2 ((lv, op, mo) :: S0) (tkN T n q) v cs' L' τ' → Tm (fun k => f_F2 k (e + 6) 1 3 L' τ') (Xq T n b u al σ0 tb gl Vm o0 mk p sz q0 v0 xF n1 n2)) : Tm (fun k => AfT e L τ k) (Xq T n b u al σ0 tb gl Vm o0 mk p sz q0 v0 xF a1 a2) := by
  obtain ⟨wa, ⟨c1, c2, c3, c4⟩, ⟨l1, l2⟩, i0, l4, i4⟩ := af
  obtain ⟨⟨n10, b22, b33, b44, b55⟩, hls, hde⟩ := xb
  have kb := kl_b (tkK T n q)
  have lv6 : lv ≤ 6 := by omega
  have sp8 : spL lv ≤ 8 := by
    unfold spL
    by_cases c : lv = 3 ∨ lv = 6
    · rw [if_pos c]; omega
    · rw [if_neg c]; omega
  have go := tk_go wa.1.1.1
  have qn := go.1
  have g1 := go.2.2 (kl_25 (by omega))
  have kv : tkV (tkK T n q) := tk_v wa.1.1.1.1.2.2.2.1 wa.1.1.1.1.2.2.2.2.1
  have lva := lvx_all kv
  have ek : τ.1 3702 = cKd (tkK T n q) := wa.1.1.1.1.2.2.2.2.2.1
  have wc := w_cnt (S' ++ S0)
  have wc0 := w_cnt S0
  have wu := wU_ap S' S0
  have g2 : lv ≤ 1 → q + 2 ≤ tkN T n q := fun z => by
    rcases (show lv = 0 ∨ lv = 1 by omega) with y | y
    · exact tk_wl (m := 2) wa.1.1.1 (kl_65 (by omega)) (by decide) rfl
    · have := tk_wl (m := 3) wa.1.1.1 (kl_64 (by omega)) (by decide) rfl
      omega
  -- the next operand
  have b18 : ∀ (op mo : Nat) (ca : List Int32) (n1 n2 : Nat) (L2 : LV) (τ2 : CS), C → WQ T n b u al tb gl Vm o0 mk p sz ((lv, op, mo) :: S0) (tkN T n q) v ca 0 τ2 → XK b u tb.length sz mk σ0 τ2 → (n1 + PhC τ2 ≤ PhC σ0 ∧ n2 + PhS τ2 ≤ PhS σ0) → 2 * (ca.length + wP S0 + 1) ≤ 3 * (tkN T n q - q0) → ¬ op = 112 → L2.1 1 = nI ls → L2.1 2 = nI mk → L2.1 3 = 1 → L2.1 4 = nI i0 → Tm (fun k => f_F2 k (e + 6) 1 18 L2 τ2) (Xq T n b u al σ0 tb gl Vm o0 mk p sz q0 v0 xF n1 n2) := by
    intro op mo ca n1 n2 L2 τ2 hc wq xk hco hsz hop h1 h2 h3' h4
    refine Tm_suc (fun k => ep_18 k _ _ _) ?_
    refine Tm_suc (fun k => ep_1 k _ _ _) ?_
    refine Tm_no ?_ ?_
    · show ¬ nI 32768 < L2.1 4 + 1
      rw [h4, n_add1, n_lt (by decide) (by omega)]; omega
    refine Tm_no (by show ¬ L2.1 3 = 0; rw [h3']; decide) ?_
    refine cont hc op mo ca n1 n2 _ τ2 ⟨WQ_a wq xk hco, ⟨by rw [wP_n (e := (lv, op, mo)) hop]; omega, ?_, by omega, c4⟩, ⟨h1, h2, rfl⟩, ⟨0, rfl, Nat.zero_le _⟩, i0 + 1, ?_, by omega⟩
    · by_cases c : lv = 2 ∨ 6 ≤ lv
      · rw [wU_y (e := (lv, op, mo)) c]; omega
      · rw [wU_n (e := (lv, op, mo)) c]; omega
    · show L2.1 4 + 1 = _
      rw [h4, n_add1]
  -- behind the settling
  have b21 : ∀ (ca : List Int32) (n1 n2 : Nat) (L2 : LV) (τ2 : CS), WA T n b u al σ0 tb gl Vm o0 mk p sz n1 n2 S0 q v ca 1 τ2 → ca.length + wP S0 = cs.length + wP (S' ++ S0) → L2.1 1 = nI ls → L2.1 2 = nI mk → L2.1 4 = nI i0 → L2.1 6 = nI lv → L2.1 100 = 1 → Tm (fun k => f_F2 k (e + 6) 1 21 L2 τ2) (Xq T n b u al σ0 tb gl Vm o0 mk p sz q0 v0 xF n1 n2) := by
    intro ca n1 n2 L2 τ2 wa2 hca h1 h2 h4 h6 h100
    have ek2 : τ2.1 3702 = cKd (tkK T n q) := wa2.1.1.1.1.2.2.2.2.2.1
    have e20 := wa2.1.1.1.2.2.2.2.2.1.2
    have mm := wa2.1.1.1.2.2.1.2
    have el : S0.length + 1 = ((lv, 0, 0) :: S0 : List Wt).length := rfl
    have hm3 : mk + 3 * S0.length + 3 ≤ 21504 := by omega
    -- behind the token
    have b11 : ∀ (L3 : LV) (τ3 : CS) (m1 m2 : Nat), C → Sy T n b u al σ0 tb.length sz mk m1 m2 tb (o0 + wO S0 + (if lv = 6 then 1 else 0)) (tkN T n q) v (mk + 3 * S0.length) p sz ca τ3 → (∀ i, i < mk + 3 * S0.length → τ3.2.2.1 41 i = τ2.2.2.1 41 i) → L3.1 1 = nI ls → L3.1 2 = nI mk → L3.1 3 = 1 → L3.1 4 = nI i0 → L3.1 6 = nI lv → L3.1 7 = cKd (tkK T n q) → Tm (fun k => f_F2 k (e + 6) 1 11 L3 τ3) (Xq T n b u al σ0 tb gl Vm o0 mk p sz q0 v0 xF m1 m2) := by
      intro L3 τ3 m1 m2 hc s3 k3 j1 j2 j3 j4 j6 j7
      have mk3 : MkW τ3 mk S0 := MkW_k S0 mk k3 wa2.2.1
      refine Tm_suc (fun k => ep_11 k _ _ _) ?_
      refine Tm_no (by rw [j3]; decide) ?_
      rw [j6]
      by_cases c2 : 1 < lv
      · refine Tm_yes ?_ ?_
        · show nI 1 < nI lv
          rw [n_lt (by decide) (by omega)]; exact c2
        refine Tm_suc (fun k => ep_13 k _ _ _) ?_
        refine Tm_no (by rw [j3]; decide) ?_
        have l4' := lva.2 (by omega)
        refine Tm_op (c_binOp _ τ3) (fun r z => ?_)
        rw [z]
        have e0 : binP ((lI lZ 0 (L3.1 7)).1 0) = nI (uN (binP (cKd (tkK T n q)))) := by
          show binP (L3.1 7) = _
          rw [j7, ← u_of]
        rw [e0, j6]
        refine st_post s3 hm3 (fun τ4 x1 x2 s4 k4 w4 _ => ?_)
        refine b18 (uN (binP (cKd (tkK T n q)))) 0 ca _ _ _ τ4 hc ⟨⟨?_, s4.2⟩, ⟨w4, MkW_k S0 mk k4 mk3⟩, ⟨Or.inr (Or.inr (Or.inl ⟨by show 3 ≤ lv; omega, lv6, l4'⟩)), wa2.2.2.1⟩, ?_⟩ s4.1.2.1 s4.1.2.2.1 (by omega) (by omega) j1 j2 j3 j4
        · have z4 := s4.1.1
          by_cases c6 : lv = 6
          · rw [if_pos c6] at z4
            rw [wO_y (e := (lv, uN (binP (cKd (tkK T n q))), 0)) (Or.inr (by show 6 ≤ lv; omega))]
            exact z4
          · rw [if_neg c6] at z4
            rw [wO_n (e := (lv, uN (binP (cKd (tkK T n q))), 0)) (by show ¬ (lv = 2 ∨ 6 ≤ lv); omega)]
            exact z4
        · rw [wH_no (e := (lv, uN (binP (cKd (tkK T n q))), 0)) (by show ¬ lv ≤ 1; omega), wT_y (e := (lv, uN (binP (cKd (tkK T n q))), 0)) (by show 3 ≤ lv ∧ lv ≤ 6; omega)]
          exact wa2.2.2.2
      · refine Tm_no ?_ ?_
        · show ¬ nI 1 < nI lv
          rw [n_lt (by decide) (by omega)]; exact c2
        have g2' := g2 (by omega)
        rw [if_neg (by omega)] at s3
        refine Tm_oP (Sy_pp s3) ?_
        have b15 : ∀ L4 : LV, L4.1 1 = nI ls → L4.1 2 = nI mk → L4.1 3 = 1 → L4.1 4 = nI i0 → L4.1 100 = nI (7 - lv) → L4.2.2.1 101 = b → L4.1 102 = nI 8 → L4.1 103 = nI lv → Tm (fun k => f_F2 k (e + 6) 1 15 L4 τ3) (Xq T n b u al σ0 tb gl Vm o0 mk p sz q0 v0 xF m1 m2) := by
          intro L4 i1 i2 i3 i4 i100 i101 i102 i103
          refine Tm_suc (fun k => ep_15 k _ _ _) ?_
          rw [i101, i100, i102, i103]
          refine st_emitF (op := 7 - lv) s3 rfl rfl (by omega) (fun τ4 x1 x2 s4 k4 _ => ?_)
          refine st_post s4 hm3 (fun τ5 x3 x4 s5 k5 w5 _ => ?_)
          have ph := Ph_j (op := 7 - lv) (t' := wT S0) wa2.2.2.2 (by omega) (fun _ => rfl) (fun z => absurd z (by omega)) 0
          rw [if_neg (show ¬ 7 - lv = 3 by omega)] at ph
          have la : (ca ++ [em (7 - lv) 0]).length = ca.length + 1 := by rw [List.length_append]; rfl
          refine b18 8 (sz + ca.length) (ca ++ [em (7 - lv) 0]) _ _ _ τ5 hc ⟨⟨?_, s5.2⟩, ⟨w5, MkW_k S0 mk (fun i hi => by rw [k5 i hi, k4.1]) mk3⟩, ⟨Or.inl ⟨by show lv ≤ 1; omega, rfl, Nat.le_add_right _ _, ?_, 0, ?_⟩, wOk_ap S0 wa2.2.2.1⟩, ?_⟩ s5.1.2.1 s5.1.2.2.1 (by rw [la]; omega) (by decide) i1 i2 i3 i4
          · rw [wO_n (e := (lv, 8, sz + ca.length)) (by show ¬ (lv = 2 ∨ 6 ≤ lv); omega)]
            exact s5.1.1
          · show sz + ca.length - sz < _
            rw [la]; omega
          · show (ca ++ [em (7 - lv) 0]).getD (sz + ca.length - sz) 0 = _
            rw [show sz + ca.length - sz = ca.length + 0 by omega, gd_r]; rfl
          · rw [wH_or (e := (lv, 8, sz + ca.length)) (by show lv ≤ 1; omega), wT_n (e := (lv, 8, sz + ca.length)) (by show ¬ (3 ≤ lv ∧ lv ≤ 6); omega)]
            show PKh u p gl Vm ((sz + ca.length - sz, 7 - lv, wT S0) :: wH sz S0) (wT S0) _
            rw [show sz + ca.length - sz = ca.length by omega]
            exact ph
        rcases (show lv = 0 ∨ lv = 1 by omega) with z | z
        · refine Tm_yes (by rw [z]; rfl) ?_
          exact b15 _ j1 j2 j3 j4 (by rw [z]; rfl) rfl rfl (by show nI lv = _; rfl)
        · refine Tm_no (by rw [z]; decide) ?_
          refine Tm_suc (fun k => ep_14 k _ _ _) ?_
          exact b15 _ j1 j2 j3 j4 (by rw [z]; rfl) rfl rfl (by show nI lv = _; rfl)
    refine Tm_suc (fun k => ep_21 k _ _ _) ?_
    refine Tm_suc (fun k => ep_7 k _ _ _) ?_
    refine Tm_no (by show ¬ L2.1 100 = 0; rw [h100]; decide) ?_
    have e6 : ∀ L3 : LV, L3.1 6 = nI lv → (L3.1 6 = 6 ↔ lv = 6) := fun L3 h => by
      rw [h]; exact n_eq (q := 6) (by omega) (by decide)
    by_cases c6 : lv = 6
    · refine Tm_yes ((e6 _ h6).2 c6) ?_
      have hx6 : (¬ (¬ o0 + wO S0 = 20 ∧ ¬ tkK T n (tkN T n q) = 0) ∧ xF = none) ∨ ((¬ o0 + wO S0 = 20 ∧ ¬ tkK T n (tkN T n q) = 0) ∧ C) := by
        rcases hx with ⟨w1, w2⟩ | ⟨w1, w2⟩
        · exact Or.inl ⟨fun z => w1 ⟨fun _ => z.1, z.2⟩, w2⟩
        · exact Or.inr ⟨⟨w1.1 c6, w1.2⟩, w2⟩
      refine st_opX wa2.1 hx6 (fun τ3 ret m1 m2 hc s3 k3 => ?_)
      exact b11 _ τ3 _ _ hc (by rw [if_pos c6]; exact s3) k3 h1 h2 h100 h4 h6 ek2
    · refine Tm_no (fun z => c6 ((e6 _ h6).1 z)) ?_
      refine Tm_suc (fun k => ep_10 k _ _ _) ?_
      refine Tm_no (by show ¬ L2.1 100 = 0; rw [h100]; decide) ?_
      have hx6 : (tkK T n (tkN T n q) = 0 ∧ xF = none) ∨ (¬ tkK T n (tkN T n q) = 0 ∧ C) := by
        rcases hx with ⟨w1, w2⟩ | ⟨w1, w2⟩
        · exact Or.inl ⟨Classical.byContradiction (fun z => w1 ⟨fun y => absurd y c6, z⟩), w2⟩
        · exact Or.inr ⟨w1.2, w2⟩
      refine st_advX wa2.1 hx6 (fun τ3 ret m1 m2 hc s3 k3 => ?_)
      exact b11 _ τ3 _ _ hc (by rw [if_neg c6]; exact s3) k3 h1 h2 h100 h4 h6 ek2
  -- the settling
  have b17 : ∀ L2 : LV, L2.1 1 = nI ls → L2.1 2 = nI mk → L2.1 4 = nI i0 → L2.1 6 = nI lv → L2.1 100 = nI (spL lv) → L2.1 101 = nI mk → Tm (fun k => f_F2 k (e + 6) 1 17 L2 τ) (Xq T n b u al σ0 tb gl Vm o0 mk p sz q0 v0 xF a1 a2) := by
    intro L2 h1 h2 h4 h6 h100 h101
    refine Tm_suc (fun k => ep_17 k _ _ _) ?_
    refine st_settle S' S0 wa h101 h100 ha hb sp8 (by omega) (fun τ2 ca ret n1 n2 wa2 hca _ _ => ?_)
    have b19 : ∀ τ3 : CS, τ3 = τ2 → Tm (fun k => f_F2 k (e + 6) 1 19 L2 τ3) (Xq T n b u al σ0 tb gl Vm o0 mk p sz q0 v0 xF (a1 + n1) (a2 + n2)) := by
      intro τ3 z
      rw [z]
      refine Tm_suc (fun k => ep_19 k _ _ _) ?_
      exact b21 ca _ _ _ τ2 wa2 hca h1 h2 h4 h6 rfl
    rw [h6]
    by_cases c3' : lv = 3
    · refine Tm_yes (by rw [c3']; rfl) ?_
      refine Tm_op (c_ppl wa2 h2) (fun r z => ?_)
      refine Tm_no (fun w => ?_) (b19 _ z.1)
      rcases S0 with _ | ⟨e, s⟩
      · rw [z.2.1 rfl] at w
        exact absurd w (by decide)
      · have e7 : e.1 ≤ 7 := by rcases wa2.2.2.1.1 with y | y | y | y <;> omega
        rw [z.2.2 e s rfl] at w
        exact h3 c3' e s rfl ((n_eq (q := 3) (by omega) (by decide)).1 w)
    · refine Tm_no (fun w => c3' ((n_eq (q := 3) (by omega) (by decide)).1 w)) (b19 _ rfl)
  unfold AfT
  refine Tm_op (c_level _ τ) (fun r2 z => ?_)
  have ev : levP ((lI lZ 0 (τ.1 3702)).1 0) = nI lv := by
    show levP (τ.1 3702) = _
    rw [ek, lva.1, hk, sub1_n (by omega)]
  rw [z, ev, l1]
  refine Tm_no ?_ ?_
  · rw [n_lt (by omega) (by omega)]; omega
  have e36 : ∀ j : Nat, j < 100 → (nI lv = nI j ↔ lv = j) := fun j hj => n_eq (by omega) (by omega)
  have y8 : lv = 3 ∨ lv = 6 → ∀ L2 : LV, L2.1 1 = nI ls → L2.1 2 = nI mk → L2.1 4 = nI i0 → L2.1 6 = nI lv → Tm (fun k => f_F2 k (e + 6) 1 8 L2 τ) (Xq T n b u al σ0 tb gl Vm o0 mk p sz q0 v0 xF a1 a2) := by
    intro hl L2 h1 h2 h4 h6
    refine Tm_suc (fun k => ep_8 k _ _ _) ?_
    refine Tm_suc (fun k => ep_12 k _ _ _) ?_
    refine Tm_no (by show ¬ (1 : Int32) = 0; decide) ?_
    refine b17 _ h1 h2 h4 h6 ?_ h2
    show L2.1 6 + 1 = _
    unfold spL
    rw [if_pos hl, h6, n_add1]
  refine Tm_suc (fun k => ep_6 k _ _ _) ?_
  refine Tm_no (by show ¬ (1 : Int32) = 0; decide) ?_
  by_cases c3' : lv = 3
  · refine Tm_yes ((e36 3 (by decide)).2 c3') ?_
    exact y8 (Or.inl c3') _ l1 l2 l4 rfl
  refine Tm_no (fun w => c3' ((e36 3 (by decide)).1 w)) ?_
  by_cases c6 : lv = 6
  · refine Tm_yes ((e36 6 (by decide)).2 c6) ?_
    exact y8 (Or.inr c6) _ l1 l2 l4 rfl
  refine Tm_no (fun w => c6 ((e36 6 (by decide)).1 w)) ?_
  refine Tm_suc (fun k => ep_9 k _ _ _) ?_
  refine Tm_suc (fun k => ep_12 k _ _ _) ?_
  refine Tm_yes rfl ?_
  refine Tm_suc (fun k => ep_16 k _ _ _) ?_
  refine b17 _ l1 l2 l4 rfl ?_ l2
  show nI lv = _
  unfold spL
  rw [if_neg (by omega)]
/-- a comparison stands uppermost among those below level 4 -/
def RlT (s : List Wt) : Prop := ∃ (s4 : List Wt) (e3 : Wt) (s1 : List Wt), s = s4 ++ e3 :: s1 ∧ (∀ e, e ∈ s4 → 4 ≤ e.1) ∧ e3.1 = 3
/-- the exp is over -/
theorem st_end {r : RT} (xb : XB n o0 q0 v0 mk p sz tb.length ls e) (af : AfS T n b u al σ0 tb gl Vm o0 mk p sz q0 v0 ls a1 a2 s q v cs L τ) (hk : kl (tkK T n q) ≤ ls ∨ (kl (tkK T n q) = 4 ∧ ls ≤ 3 ∧ RlT s)) (hx : xF = some r) (h1 : r.1 = q) (h2 : r.2.1 = v) (t1 : r.2.2.1 = 0 → ¬ τ.1 4016 = nI q0) (t2 : ¬ r.2.2.1 = 0 → s = [] ∧ TgI T n u p gl Vm tb q0 sz mk cs r.2.2.1 τ) : Tm (fun k => AfT e L τ k) (Xq T n b u al σ0 tb gl Vm o0 mk p sz q0 v0 xF a1 a2) := by
  obtain ⟨wa, ⟨c1, c2, c3, c4⟩, ⟨l1, l2⟩, i0, l4, i4⟩ := af
  obtain ⟨⟨n10, b22, b33, b44, b55⟩, hls, hde⟩ := xb
  have kb := kl_b (tkK T n q)
  have qn := (tk_go wa.1.1.1).1
  have kv : tkV (tkK T n q) := tk_v wa.1.1.1.1.2.2.2.1 wa.1.1.1.1.2.2.2.2.1
  have lva := lvx_all kv
  have ek : τ.1 3702 = cKd (tkK T n q) := wa.1.1.1.1.2.2.2.2.2.1
  -- all is settled
  have b7 : ∀ (S2 : List Wt) (ca : List Int32) (n1 n2 : Nat) (L2 : LV) (τ2 : CS), WA T n b u al σ0 tb gl Vm o0 mk p sz n1 n2 S2 q v ca 1 τ2 → ca.length + wP S2 = cs.length + wP s → τ2.1 4016 = τ.1 4016 → (s = [] → S2 = [] ∧ ca = cs ∧ τ2 = τ) → L2.1 2 = nI mk → L2.1 3 = 0 → L2.1 4 = nI i0 → Tm (fun k => f_F2 k (e + 6) 1 7 L2 τ2) (Xq T n b u al σ0 tb gl Vm o0 mk p sz q0 v0 xF n1 n2) := by
    intro S2 ca n1 n2 L2 τ2 wa2 hca h16 hs h2' h3' h4'
    refine Tm_suc (fun k => ep_7 k _ _ _) ?_
    refine Tm_yes h3' ?_
    refine Tm_suc (fun k => ep_10 k _ _ _) ?_
    refine Tm_yes h3' ?_
    refine Tm_suc (fun k => ep_11 k _ _ _) ?_
    refine Tm_yes h3' ?_
    refine Tm_suc (fun k => ep_13 k _ _ _) ?_
    refine Tm_yes h3' ?_
    refine Tm_suc (fun k => ep_18 k _ _ _) ?_
    refine Tm_suc (fun k => ep_1 k _ _ _) ?_
    refine Tm_no ?_ ?_
    · show ¬ nI 32768 < L2.1 4 + 1
      rw [h4', n_add1, n_lt (by decide) (by omega)]; omega
    refine Tm_yes h3' ?_
    refine Tm_suc (fun k => ep_2 k _ _ _) ?_
    have wa2' : WA T n b u al σ0 tb gl Vm o0 mk p sz n1 n2 (S2 ++ []) q v ca 1 τ2 := by rw [List.append_nil]; exact wa2
    refine st_settle (ls := 0) S2 [] wa2' h2' rfl (fun e _ => Nat.zero_le _) (fun e s z => by cases z) (by decide) (by rw [List.append_nil]; omega) (fun τ3 cb ret m1 m2 wa3 hcb k16 hs3 => ?_)
    rw [hx]
    rw [List.append_nil] at hcb
    have hl : cb.length = cs.length + wP s := by
      have : wP ([] : List Wt) = 0 := rfl
      omega
    refine Tm_some (Qfin wa3.1.1 ⟨cb, ?_, wa3.1.2, Ph_end wa3.2.2.2, by rw [h1]; omega, by omega, by omega, fun z => ?_, fun z => ?_⟩)
    · rw [h1, h2]; exact wa3.1.1.1
    · rw [k16, h16]; exact t1 z
    · obtain ⟨s0, tg⟩ := t2 z
      obtain ⟨y1, y2, y3⟩ := hs s0
      obtain ⟨y4, y5⟩ := hs3 y1
      rw [y4, y2, y5, y3]
      exact tg.2 z
  unfold AfT
  refine Tm_op (c_level _ τ) (fun r2 z => ?_)
  rw [z]
  have ev : levP ((lI lZ 0 (τ.1 3702)).1 0) = nI (kl (tkK T n q)) - 1 := by
    show levP (τ.1 3702) = _
    rw [ek, lva.1]
  rcases hk with hk | ⟨hk, hl3, s4, e3, s1, hs, h4, h3⟩
  · refine Tm_yes ?_ ?_
    · show levP ((lI lZ 0 (τ.1 3702)).1 0) < L.1 1
      rw [ev, l1]
      by_cases c0 : kl (tkK T n q) = 0
      · rw [c0]
        rcases hls with y | y
        · rw [y]; decide
        · rw [y]; decide
      · rw [show kl (tkK T n q) = kl (tkK T n q) - 1 + 1 by omega, sub1_n (by omega), n_lt (by omega) (by omega)]
        omega
    refine Tm_suc (fun k => ep_5 k _ _ _) ?_
    refine Tm_suc (fun k => ep_6 k _ _ _) ?_
    refine Tm_yes rfl ?_
    exact b7 s cs _ _ _ τ wa rfl rfl (fun y => ⟨y, rfl, rfl⟩) l2 rfl l4
  · have e3l : levP ((lI lZ 0 (τ.1 3702)).1 0) = nI 3 := by rw [ev, hk]; rfl
    refine Tm_no ?_ ?_
    · show ¬ levP ((lI lZ 0 (τ.1 3702)).1 0) < L.1 1
      rw [e3l, l1, n_lt (by decide) (by omega)]; omega
    refine Tm_suc (fun k => ep_6 k _ _ _) ?_
    refine Tm_no (by show ¬ (1 : Int32) = 0; decide) ?_
    refine Tm_yes e3l ?_
    refine Tm_suc (fun k => ep_8 k _ _ _) ?_
    refine Tm_suc (fun k => ep_12 k _ _ _) ?_
    refine Tm_no (by show ¬ (1 : Int32) = 0; decide) ?_
    refine Tm_suc (fun k => ep_17 k _ _ _) ?_
    rw [hs] at wa
    refine st_settle (ls := 4) s4 (e3 :: s1) wa l2 (by show levP ((lI lZ 0 (τ.1 3702)).1 0) + 1 = _; rw [e3l]; rfl) h4 (fun e s z => by cases z; omega) (by decide) (by rw [← hs]; omega) (fun τ2 ca ret n1 n2 wa2 hca k16 _ => ?_)
    refine Tm_yes e3l ?_
    refine Tm_op (c_ppl wa2 l2) (fun r3 z3 => ?_)
    refine Tm_yes (by rw [z3.2.2 e3 s1 rfl, h3]; rfl) ?_
    rw [z3.1]
    refine Tm_suc (fun k => ep_20 k _ _ _) ?_
    refine Tm_suc (fun k => ep_21 k _ _ _) ?_
    refine b7 (e3 :: s1) ca _ _ _ τ2 wa2 (by rw [hs]; exact hca) k16 (fun y => ?_) l2 rfl l4
    rw [hs] at y
    exact absurd y (by cases s4 <;> exact List.cons_ne_nil _ _)
end CWD
