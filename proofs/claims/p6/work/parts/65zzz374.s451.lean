/-! The class: jumps are aimed; words are read. -/
section CVJ
variable {σ σ' σ0 τ τ' : CS} {L : LV} {b : Bool} {T : Nat → Int32} {n q q' u al o v mk p sz szB nc0 sz0 mk0 a1 a2 m kk f e op h : Nat} {y w : Int32} {l l' cs cs' : List Int32} {tb : List Ent} {α : Type} {S : α → Int32 → CS → Prop} {C : Prop} {E : En} {gl : Nat × (Nat → Nat → Prop)} {Vm : Nat → Prop} {bt : BT}
/-- an int of the code laid is set anew -/
theorem Sy_set (s : Sy T n b u al σ0 nc0 sz0 mk0 a1 a2 tb o q v mk p szB cs τ) (hs : sz0 ≤ szB) (hh : h < cs.length) (w : Int32) : Sy T n b u al σ0 nc0 sz0 mk0 a1 a2 tb o q v mk p szB (cs.set h w) (uA τ (pR0 (sKd τ b)) (szB + h) w) := by
  obtain ⟨⟨h1, h2, h3, h4, h5, h6⟩, k2⟩ := s
  have ln : (cs.set h w).length = cs.length := List.length_set
  have pc := pR_c b
  have ne : ∀ k, ¬ (k = 43 ∨ k = 51) → (uA τ (pR0 (sKd τ b)) (szB + h) w).2.2.1 k = τ.2.2.1 k := fun k hk => updG_other (fun z => by rcases pR0_c (sKd τ b) with y | y <;> omega)
  have cb : ∀ i, cdr b (uA τ (pR0 (sKd τ b)) (szB + h) w) i = if i = szB + h then w else cdr b τ i := fun i => by
    show updG τ.2.2.1 (pR0 (sKd τ b)) (upd (τ.2.2.1 (pR0 (sKd τ b))) (szB + h) w) (pR0 (sKd τ b)) i = _
    rw [updG_same]; rfl
  have co : ∀ i, i < szB → cdr (!b) (uA τ (pR0 (sKd τ b)) (szB + h) w) i = cdr (!b) τ i := fun i hi => by
    show updG τ.2.2.1 (pR0 (sKd τ b)) (upd (τ.2.2.1 (pR0 (sKd τ b))) (szB + h) w) (pR0 (sKd τ (!b))) i = τ.2.2.1 (pR0 (sKd τ (!b))) i
    by_cases z : pR0 (sKd τ (!b)) = pR0 (sKd τ b)
    · rw [z, updG_same, upd_other (by omega)]
    · rw [updG_other z]
  obtain ⟨g1, g2, g3, g4, g5, g6, g7, g8⟩ := h1
  have ph := Ph_s (σ := τ) (σ' := uA τ (pR0 (sKd τ b)) (szB + h) w) rfl
  refine ⟨⟨⟨LxQ_s g1 (fun _ _ _ => rfl) ⟨rfl, rfl⟩ (ne 38 (by decide)) rfl rfl, by rw [ln]; exact g2, g3, TbR_s g4 rfl rfl rfl (ne _ (by omega)) (ne _ (by omega)) (ne _ (by omega)) (ne _ (by omega)), g5, g6, ⟨by rw [ne _ (by omega)]; exact g7.1, g7.2⟩, g8⟩, ?_, ⟨by omega, by omega⟩, h4, by rw [ln]; exact h5, h6⟩, fun i hi => ?_⟩
  · obtain ⟨d1, ⟨d3, d4, d5⟩, d6, d12, d13, d14, d15, d16, d17⟩ := h2
    refine ⟨d1, ⟨fun k hk => (ne k (by omega)).trans (d3 k hk), d4, d5⟩, d6, fun i hi => by rw [ne _ (by omega)]; exact d12 i hi, fun i hi => ?_, fun i hi => ⟨?_, ?_⟩, fun i hi => by rw [ne 41 (by decide)]; exact d15 i hi, d16, d17⟩
    · have y := d13 i hi
      rw [ne (pR7 b) (by omega), ne (pR8 b) (by omega), ne (pR9 b) (by omega), ne (pR10 b) (by omega)]
      exact y
    · rw [cb, if_neg (by omega)]; exact (d14 i hi).1
    · rw [co i (by omega)]; exact (d14 i hi).2
  · rw [cb, gd_set]
    rw [ln] at hi
    by_cases z : i = h
    · rw [if_pos (by omega), if_pos ⟨z, hh⟩]
    · rw [if_neg (by omega), if_neg (fun y => z y.1)]
      exact k2 i hi
theorem cdn_b (s : QS T n b u al tb o q v mk p sz τ) : cdn b τ ≤ 36864 := by
  rcases s.2.1.2.2 with z | z
  · omega
  · rcases pR0_c (sKd τ b) with y | y
    · show sN τ (pR0 (sKd τ b)) ≤ _; rw [y, z.1]; decide
    · show sN τ (pR0 (sKd τ b)) ≤ _; rw [y, z.2]; decide
theorem c_aim (s : Sy T n b u al σ0 nc0 sz0 mk0 a1 a2 tb o q v mk p szB cs τ) (hs : sz0 ≤ szB) (hh : h < cs.length) (ho : op < 256) {x : Int32} (hc : cs.getD h 0 = em op x) (hb : L.2.2.1 0 = b) (h1 : L.1 1 = nI (szB + h)) : Tm (fun k => y_X7_aim__P k 0 L τ) (fun r => Sy T n b u al σ0 nc0 sz0 mk0 a1 a2 tb o q v mk p szB (cs.set h (em op (L.1 2 - L.1 1))) r.2) := by
  have n36 := cdn_b s.1.1
  have le : szB + cs.length ≤ cdn b τ := s.1.1.2.1.2.1
  have ii : ¬ (nI (szB + h) < 0 ∨ cdn b τ ≤ (nI (szB + h)).toNatClampNeg) := u_in (by rw [u_n (by omega)]; omega) (by omega)
  refine Tm_suc (fun k => by rw [y_X7_aim__P]) ?_
  rw [hb, h1]
  refine Tm_chk ii (Tm_chk ii ?_)
  rw [n_cl (by omega)]
  have e1 : τ.2.2.1 (pR0 (sKd τ b)) (szB + h) = em op x := (s.2 h hh).trans hc
  rw [e1, em_lo ho]
  exact Tm_some (Sy_set s hs hh _)
theorem aim_n {j : Nat} (h1 : j ≤ cs.length) (h2 : szB + cs.length ≤ 1000000) : nI (szB + cs.length) - nI (szB + j) = nI (cs.length - j) := by
  rw [n_sub (by omega) (by omega)]
  exact congrArg nI (by omega)
/-- the newest of some jumps -/
def jsH (szB : Nat) : List Nat → Nat
  | [] => 0
  | j :: _ => szB + j
/-- jumps that wait, each telling the one before it -/
def JsC (szB : Nat) (cs : List Int32) : List Nat → Prop
  | [] => True
  | j :: js => j < cs.length ∧ 1 ≤ szB + j ∧ cs.getD j 0 = em 3 (nI (jsH szB js)) ∧ (∀ i, i ∈ js → ¬ i = j) ∧ JsC szB cs js
/-- they come to the code's end -/
def jsF (cs : List Int32) : List Nat → List Int32
  | [] => cs
  | j :: js => jsF (cs.set j (em 3 (nI (cs.length - j)))) js
theorem JsC_set {w : Int32} : ∀ (js : List Nat) (cs : List Int32) (j : Nat), (∀ i, i ∈ js → ¬ i = j) → JsC szB cs js → JsC szB (cs.set j w) js
  | [], _, _, _, _ => trivial
  | i :: js, cs, j, hn, z => by
    obtain ⟨z1, z2, z3, z4, z5⟩ := z
    refine ⟨by rw [List.length_set]; exact z1, z2, ?_, z4, JsC_set js cs j (fun k hk => hn k (List.mem_cons_of_mem _ hk)) z5⟩
    rw [gd_set, if_neg (fun y => hn i List.mem_cons_self y.1)]
    exact z3
theorem c_aimAll (hs : sz0 ≤ szB) (h36 : szB + cs.length ≤ 36864) : ∀ (js : List Nat) (i : Nat) (cs : List Int32) (τ : CS) (L' : LV), i + js.length ≤ 32768 → szB + cs.length ≤ 36864 → JsC szB cs js → L'.1 2 = nI (jsH szB js) → L'.1 3 = nI i → Sy T n b u al σ0 nc0 sz0 mk0 a1 a2 tb o q v mk p szB cs τ → Tm (fun k => y_X5_aimAll k 1 L' τ) (fun r => Sy T n b u al σ0 nc0 sz0 mk0 a1 a2 tb o q v mk p szB (jsF cs js) r.2) := by
  have fin : ∀ (cs : List Int32) (τ : CS) (L' : LV), Sy T n b u al σ0 nc0 sz0 mk0 a1 a2 tb o q v mk p szB cs τ → Tm (fun k => y_X5_aimAll k 2 L' τ) (fun r => Sy T n b u al σ0 nc0 sz0 mk0 a1 a2 tb o q v mk p szB cs r.2) := by
    intro cs τ L' s
    refine Tm_suc (fun k => by rw [y_X5_aimAll]) ?_
    exact Tm_some s
  intro js
  induction js with
  | nil =>
    intro i cs τ L' hi hc hj l2 l3 s
    refine Tm_suc (fun k => by rw [y_X5_aimAll]) ?_
    have l2' : L'.1 2 = 0 := l2
    rw [l2', l3]
    refine Tm_no ?_ (Tm_yes rfl (fin cs τ _ s))
    show ¬ nI 32768 < nI i
    have hi' : i + 0 ≤ 32768 := hi
    rw [u_ltn (by decide) (by rw [u_n (by omega)]; omega), u_n (by decide), u_n (by omega)]
    omega
  | cons j js ih =>
    intro i cs τ L' hi hc hj l2 l3 s
    obtain ⟨j1, j2, j3, j4, j5⟩ := hj
    have hi' : i + (js.length + 1) ≤ 32768 := hi
    have l2' : L'.1 2 = nI (szB + j) := l2
    have n36 := cdn_b s.1.1
    have le : szB + cs.length ≤ cdn b τ := s.1.1.2.1.2.1
    have ii : ¬ (nI (szB + j) < 0 ∨ cdn b τ ≤ (nI (szB + j)).toNatClampNeg) := u_in (by rw [u_n (by omega)]; omega) (by omega)
    have pp := Sy_pp s
    refine Tm_suc (fun k => by rw [y_X5_aimAll]) ?_
    rw [l2', l3]
    refine Tm_no ?_ (Tm_no ?_ ?_)
    · show ¬ nI 32768 < nI i
      rw [u_ltn (by decide) (by rw [u_n (by omega)]; omega), u_n (by decide), u_n (by omega)]
      omega
    · intro z
      have z' := congrArg uN z
      rw [u_n (by omega)] at z'
      have : uN (0 : Int32) = 0 := rfl
      omega
    · refine Tm_oB pp (Tm_chk ii (Tm_oB pp (Tm_oB pp ?_)))
      have es : τ.1 (fP b 1) = nI (szB + cs.length) := s.1.1.2.1.1
      refine Tm_oc (c_aim (op := 3) s hs j1 (by decide) j3 rfl rfl) (fun r z => ?_)
      have z' : Sy T n b u al σ0 nc0 sz0 mk0 a1 a2 tb o q v mk p szB (cs.set j (em 3 (nI (cs.length - j)))) r.2 := by
        have e : em 3 (τ.1 (fP b 1) - nI (szB + j)) = em 3 (nI (cs.length - j)) := by rw [es, aim_n (by omega) (by omega)]
        rw [← e]; exact z
      refine ih (i + 1) (cs.set j (em 3 (nI (cs.length - j)))) r.2 _ (by omega) (by rw [List.length_set]; exact hc) (JsC_set js cs j j4 j5) ?_ ?_ z'
      · show τ.2.2.1 (pR0 (sKd τ b)) (nI (szB + j)).toNatClampNeg >>> ((8 : Int32) &&& 31) = _
        rw [n_cl (by omega)]
        have e1 : τ.2.2.1 (pR0 (sKd τ b)) (szB + j) = em 3 (nI (jsH szB js)) := (s.2 j j1).trans j3
        rw [e1]
        cases js with
        | nil => exact em_hi (by decide) (Sm3_n (by show 0 < _; decide))
        | cons i2 js2 =>
          obtain ⟨k1, _⟩ := j5
          exact em_hi (by decide) (Sm3_n (by show szB + i2 < _; omega))
      · show nI i + 1 = _
        exact n_add1 i
/-- the op of a word -/
def wOp (k : Nat) : Nat := if 71 ≤ k ∧ k ≤ 79 then 162 + k - 71 else 171
theorem c_wordOp {k0 : Nat} (hk : k0 < 1000) (h0 : L.1 0 = nI k0) : Tm (fun k => y_X5_wordOp k 0 L σ) (fun r => r.2 = σ ∧ (((71 ≤ k0 ∧ k0 ≤ 79) ∨ k0 = 82) → r.1 = nI (wOp k0)) ∧ (¬ ((71 ≤ k0 ∧ k0 ≤ 79) ∨ k0 = 82) → r.1 = -1)) := by
  have b1 : ¬ (71 ≤ k0 ∧ k0 ≤ 79) → Tm (fun k => y_X5_wordOp k 1 L σ) (fun r => r.2 = σ ∧ (((71 ≤ k0 ∧ k0 ≤ 79) ∨ k0 = 82) → r.1 = nI (wOp k0)) ∧ (¬ ((71 ≤ k0 ∧ k0 ≤ 79) ∨ k0 = 82) → r.1 = -1)) := by
    intro hn
    refine Tm_suc (fun k => by rw [y_X5_wordOp]) ?_
    rw [h0]
    by_cases k8 : k0 = 82
    · refine Tm_yes (by rw [k8]; rfl) ?_
      refine Tm_suc (fun k => by rw [y_X5_wordOp]) ?_
      refine Tm_some ⟨rfl, fun _ => ?_, fun z => absurd (Or.inr k8) z⟩
      unfold wOp
      rw [if_neg hn]
      rfl
    · refine Tm_no (fun z => k8 ?_) ?_
      · have z' : nI k0 = nI 82 := z
        rw [n_eq (by omega) (by decide)] at z'
        exact z'
      · refine Tm_suc (fun k => by rw [y_X5_wordOp]) ?_
        refine Tm_suc (fun k => by rw [y_X5_wordOp]) ?_
        exact Tm_some ⟨rfl, fun z => z.elim (fun y => absurd y hn) (fun y => absurd y k8), fun _ => rfl⟩
  have e71 : nI k0 < 71 ↔ k0 < 71 := by
    show nI k0 < nI 71 ↔ _
    rw [u_ltn (by rw [u_n (by omega)]; omega) (by decide), u_n (by omega), u_n (by decide)]
  have e79 : 79 < nI k0 ↔ 79 < k0 := by
    show nI 79 < nI k0 ↔ _
    rw [u_ltn (by decide) (by rw [u_n (by omega)]; omega), u_n (by decide), u_n (by omega)]
  refine Tm_suc (fun k => by rw [y_X5_wordOp]) ?_
  rw [h0]
  refine Tm_ite (fun z => b1 (by rw [e71] at z; omega)) (fun z => Tm_ite (fun w => b1 (by rw [e79] at w; omega)) (fun w => ?_))
  rw [e71] at z
  rw [e79] at w
  refine Tm_some ⟨rfl, fun _ => ?_, fun y => absurd (Or.inl ⟨by omega, by omega⟩) y⟩
  show 162 + nI k0 - 71 = _
  rw [show (162 : Int32) = nI 162 from rfl, n_add (by omega), show (71 : Int32) = nI 71 from rfl, n_sub (by omega) (by omega)]
  unfold wOp
  rw [if_pos ⟨by omega, by omega⟩]
end CVJ
