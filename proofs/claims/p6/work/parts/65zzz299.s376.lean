/-! The class: cells move. -/
section CSN
variable {g g' g2 : Nat → Prop} {l l' l2 : List Nat} {t t' t2 : Nat} {σ σ' σ2 : CS} {L : LV} {x y i : Int32} {M M' U U' : Nat → Int32}
theorem c_wordsBehind : Tm (fun k => y_X1_wordsBehind k 0 L σ) (fun r => r = (nI (hdW (uN (L.1 0))), σ)) := by
  have cl : hdL (uN (L.1 0)) < 4096 := Nat.mod_lt _ (by decide)
  have k8 : hdK (uN (L.1 0)) < 8 := Nat.mod_lt _ (by decide)
  have u3 : uN (3 : Int32) = 3 := rfl
  refine Tm_suc (fun k => by rw [y_X1_wordsBehind]) ?_
  rw [e_knd, e_len]
  refine Tm_ite (fun c => ?_) (fun c => ?_)
  · rw [u_eq, u_n (by omega)] at c
    have c' : uN (L.1 0) % 8 = 4 := c
    refine Tm_suc (fun k => by rw [y_X1_wordsBehind]) ?_
    refine Tm_some (Prod.ext ?_ rfl)
    show (nI (hdL (uN (L.1 0))) + 3) >>> ((2 : Int32) &&& 31) = nI (hdW (uN (L.1 0)))
    unfold hdW
    rw [if_pos c', u_of ((nI (hdL (uN (L.1 0))) + 3) >>> ((2 : Int32) &&& 31)), u_sar2 (by rw [u_add (by rw [u_n (by omega)]; omega), u_n (by omega)]; omega), u_add (by rw [u_n (by omega)]; omega), u_n (by omega), u3]
  · rw [u_eq, u_n (by omega)] at c
    have c' : ¬ uN (L.1 0) % 8 = 4 := c
    refine Tm_suc (fun k => by rw [y_X1_wordsBehind]) ?_
    refine Tm_suc (fun k => by rw [y_X1_wordsBehind]) ?_
    refine Tm_some (Prod.ext ?_ rfl)
    show nI (hdL (uN (L.1 0))) = nI (hdW (uN (L.1 0)))
    unfold hdW
    rw [if_neg c']
/-- an int of a cell as it will be -/
def rnw (M U : Nat → Int32) (q j : Nat) : Int32 := if j = 0 ∨ hdK (uN (M q)) < 5 then M (q + j) else rnm U (M (q + j))
/-- what moving leaves -/
def MvM (l : List Nat) (M U Mc : Nat → Int32) (a : Nat) : Prop := (∀ q, q ∈ l → q < a → bI U q = 1 → ∀ j, j ≤ hdW (uN (M q)) → Mc (ctB U q + j) = rnw M U q j) ∧ ∀ p, p < 3 → Mc p = M p
theorem ct_3 (h : BI g l M U) : ∀ p, p ≤ 3 → ctB U p = p := by
  have a := h.2.2
  intro p hp
  have e : ctB U 1 = 1 := by show 0 + bI U 0 = 1; rw [a.1]
  have e2 : ctB U 2 = 2 := by show ctB U 1 + bI U 1 = 2; rw [e, a.2.1]
  have e3 : ctB U 3 = 3 := by show ctB U 2 + bI U 2 = 3; rw [e2, a.2.2]
  rcases (show p = 0 ∨ p = 1 ∨ p = 2 ∨ p = 3 by omega) with z | z | z | z <;> rw [z]
  · rfl
  · exact e
  · exact e2
  · exact e3
theorem ct_m (h : BI g l M U) {q : Nat} (hq : q ∈ l) (h1 : bI U q = 1) {n : Nat} (hn : n ≤ hdW (uN (M q)) + 1) : ctB U (q + n) = ctB U q + n := ct_1 n (fun j hj => by rw [h.1 q hq j (by omega)]; exact h1)
theorem ct_u (h : BI g l M U) {q : Nat} (hq : q ∈ l) (h1 : bI U q = 0) {n : Nat} (hn : n ≤ hdW (uN (M q)) + 1) : ctB U (q + n) = ctB U q := ct_0 n (fun j hj => by rw [h.1 q hq j (by omega)]; exact h1)
theorem ct_lt (U : Nat → Int32) {a b : Nat} (h : a ≤ b) : ctB U a ≤ ctB U b := by
  have z := ct_mono U (a := a) (b - a)
  rw [show a + (b - a) = b from by omega] at z
  exact z
theorem mv_1 (hq : HQ g l t σ) (hb : BI g l (σ.2.2.1 3) (σ.2.2.1 1)) (hB : BfU (sN σ 1) (σ.2.2.1 1) (σ.2.2.1 2)) : ∀ (l' : List Nat) (a : Nat) (L : LV) (Mc : Nat → Int32), TlC (σ.2.2.1 3) t a l' → (∀ q, q ∈ l' → q ∈ l) → 3 ≤ a → uN (L.1 3) = a → uN (L.1 1) = ctB (σ.2.2.1 1) a → (∀ p, a ≤ p → Mc p = σ.2.2.1 3 p) → MvM l (σ.2.2.1 3) (σ.2.2.1 1) Mc a → Tm (fun k => y_X1_moveCells k 1 L (uF σ 3 Mc)) (fun r => ∃ Mc', r.2 = hpC σ (ctB (σ.2.2.1 1) t) Mc' ∧ MvM l (σ.2.2.1 3) (σ.2.2.1 1) Mc' t) := by
  have nn := HQ_n hq
  have tt := hq.2.1
  have et : uN (σ.1 1) = t := by rw [hq.1, u_n (by omega)]
  intro l'
  induction l' with
  | nil =>
    intro a L Mc tl sub a3 l3 l1 hp hm
    have ea : a = t := tl
    have cl := ct_le (σ.2.2.1 1) a
    refine Tm_suc (fun k => by rw [y_X1_moveCells]) ?_
    refine Tm_yes (by show σ.1 1 ≤ _; rw [u_le (by omega) (by omega)]; omega) ?_
    refine Tm_suc (fun k => by rw [y_X1_moveCells]) ?_
    refine Tm_some ⟨Mc, ?_, by rw [← ea]; exact hm⟩
    show uI (uF σ 3 Mc) 1 (L.1 1) = _
    rw [u_of (L.1 1), l1, ea]
    rfl
  | cons q l' ih =>
    intro a L Mc tl sub a3 l3 l1 hp hm
    obtain ⟨qa, t1, t2, t3⟩ := tl
    subst qa
    have ql := sub q List.mem_cons_self
    have cl := ct_le (σ.2.2.1 1) q
    have i3 : ¬ (L.1 3 < 0 ∨ sN (uF σ 3 Mc) 3 ≤ (L.1 3).toNatClampNeg) := u_in (by show _ < sN σ 3; omega) (by show sN σ 3 ≤ _; omega)
    have wl : hdW (uN (σ.2.2.1 3 q)) < 4096 := by
      have := Nat.mod_lt (uN (σ.2.2.1 3 q) / 16) (show 4096 > 0 by decide)
      unfold hdW hdL
      split <;> omega
    have eh : (uF σ 3 Mc).2.2.1 3 (L.1 3).toNatClampNeg = σ.2.2.1 3 q := by
      show Mc (L.1 3).toNatClampNeg = _
      rw [u_cl (by omega), l3]
      exact hp q (Nat.le_refl _)
    have u1 : uN (1 : Int32) = 1 := rfl
    have ew : uN (1 + nI (hdW (uN (σ.2.2.1 3 q)))) = 1 + hdW (uN (σ.2.2.1 3 q)) := by rw [u_add (by rw [u_n (by omega)]; omega), u_n (by omega), u1]
    -- behind the cell
    have b3 : ∀ (L' : LV) (Mc' : Nat → Int32), L'.1 3 = L.1 3 → uN (L'.1 2) = 1 + hdW (uN (σ.2.2.1 3 q)) → uN (L'.1 1) = ctB (σ.2.2.1 1) (q + 1 + hdW (uN (σ.2.2.1 3 q))) → (∀ p, q + 1 + hdW (uN (σ.2.2.1 3 q)) ≤ p → Mc' p = σ.2.2.1 3 p) → MvM l (σ.2.2.1 3) (σ.2.2.1 1) Mc' (q + 1 + hdW (uN (σ.2.2.1 3 q))) → Tm (fun k => y_X1_moveCells k 3 L' (uF σ 3 Mc')) (fun r => ∃ Mc', r.2 = hpC σ (ctB (σ.2.2.1 1) t) Mc' ∧ MvM l (σ.2.2.1 3) (σ.2.2.1 1) Mc' t) := by
      intro L' Mc' z3 z2 z1 zp zm
      refine Tm_suc (fun k => by rw [y_X1_moveCells]) ?_
      refine ih _ _ Mc' t3 (fun r hr => sub r (List.mem_cons_of_mem _ hr)) ?_ ?_ ?_ zp zm
      · omega
      · show uN (L'.1 3 + L'.1 2) = _
        rw [z3, u_add (by omega), z2]; omega
      · exact z1
    -- cells before it
    have near : ∀ r, r ∈ l → r < q + 1 + hdW (uN (σ.2.2.1 3 q)) → r = q ∨ r < q := by
      intro r hr hlt
      rcases TlC_dj l 3 hq.2.2.2.2.2.1 q r ql hr with v | v | v <;> omega
    refine Tm_suc (fun k => by rw [y_X1_moveCells]) ?_
    refine Tm_no (by show ¬ σ.1 1 ≤ _; rw [u_le (by omega) (by omega)]; omega) ?_
    refine Tm_chk i3 ?_
    rw [eh]
    refine Tm_ocE c_wordsBehind ?_
    have iu3 := in_ui (x := L.1 3) hq (by omega)
    refine Tm_chk iu3 ?_
    refine Tm_ite (fun c0 => ?_) (fun c0 => ?_)
    · have c1 := (bit_t (σ.2.2.1 1) (x := L.1 3) (by omega)).1 c0
      rw [l3] at c1
      refine b3 _ Mc rfl ?_ ?_ ?_ ⟨?_, hm.2⟩
      · exact ew
      · show uN (L.1 1) = _
        rw [l1, show q + 1 + hdW (uN (σ.2.2.1 3 q)) = q + (hdW (uN (σ.2.2.1 3 q)) + 1) from by omega, ct_u hb ql c1 (Nat.le_refl _)]
      · intro p h1
        exact hp p (by omega)
      · intro r hr hlt h1
        rcases near r hr hlt with v | v
        · rw [v, c1] at h1
          exact absurd h1 (by decide)
        · exact hm.1 r hr v h1
    · have c1 : ¬ bI (σ.2.2.1 1) q = 0 := by
        rw [← l3]
        exact fun z => c0 ((bit_t (σ.2.2.1 1) (x := L.1 3) (by omega)).2 z)
      have c2 : bI (σ.2.2.1 1) q = 1 := (bI_2 (σ.2.2.1 1) q).resolve_left c1
      have gq := hb.2.1 q ql c2
      have cg := HQ_c hq gq
      have em : ctB (σ.2.2.1 1) (q + 1 + hdW (uN (σ.2.2.1 3 q))) = ctB (σ.2.2.1 1) q + (hdW (uN (σ.2.2.1 3 q)) + 1) := by
        rw [show q + 1 + hdW (uN (σ.2.2.1 3 q)) = q + (hdW (uN (σ.2.2.1 3 q)) + 1) from by omega, ct_m hb ql c2 (Nat.le_refl _)]
      -- the copy
      have b5 : ∀ (L' : LV) (Mi : Nat → Int32), L'.1 3 = L.1 3 → L'.1 1 = L.1 1 → uN (L'.1 2) = 1 + hdW (uN (σ.2.2.1 3 q)) → (∀ j, j ≤ hdW (uN (σ.2.2.1 3 q)) → Mi (q + j) = rnw (σ.2.2.1 3) (σ.2.2.1 1) q j) → (∀ p, p < q ∨ q + hdW (uN (σ.2.2.1 3 q)) < p → Mi p = Mc p) → Tm (fun k => y_X1_moveCells k 5 L' (uF σ 3 Mi)) (fun r => ∃ Mc', r.2 = hpC σ (ctB (σ.2.2.1 1) t) Mc' ∧ MvM l (σ.2.2.1 3) (σ.2.2.1 1) Mc' t) := by
        intro L' Mi z3 z1 z2 zi zo
        have u3' : uN (L'.1 3) = q := by rw [z3]; exact l3
        have u1' : uN (L'.1 1) = ctB (σ.2.2.1 1) q := by rw [z1]; exact l1
        have e3 : (L'.1 3).toNatClampNeg = q := by rw [u_cl (by omega)]; exact u3'
        have e1 : (L'.1 1).toNatClampNeg = ctB (σ.2.2.1 1) q := by rw [u_cl (by omega)]; exact u1'
        have e2 : (L'.1 2).toNatClampNeg = 1 + hdW (uN (σ.2.2.1 3 q)) := by rw [u_cl (by omega)]; exact z2
        refine Tm_suc (fun k => by rw [y_X1_moveCells]) ?_
        refine Tm_chk ⟨?_, ?_, ?_, ?_, ?_⟩ ?_
        · rw [u_neg]; omega
        · rw [u_neg]; omega
        · rw [u_neg]; omega
        · show (L'.1 3).toNatClampNeg + (L'.1 2).toNatClampNeg ≤ sN σ 3
          omega
        · show (L'.1 1).toNatClampNeg + (L'.1 2).toNatClampNeg ≤ sN σ 3
          omega
        rw [uF_f]
        refine b3 _ _ z3 z2 ?_ ?_ ⟨?_, ?_⟩
        · show uN (L'.1 1 + L'.1 2) = _
          rw [u_add (by omega), u1', z2, em]; omega
        · intro p h1
          show va_cpy Mi Mi (L'.1 3).toNatClampNeg (L'.1 1).toNatClampNeg (L'.1 2).toNatClampNeg p = _
          unfold va_cpy
          rw [if_neg (by omega), zo p (by omega)]
          exact hp p (by omega)
        · intro r hr hlt h1 j hj
          show va_cpy Mi Mi (L'.1 3).toNatClampNeg (L'.1 1).toNatClampNeg (L'.1 2).toNatClampNeg _ = _
          unfold va_cpy
          rcases near r hr hlt with v | v
          · rw [v] at hj ⊢
            rw [if_pos (by omega), e3, e1, show q + (ctB (σ.2.2.1 1) q + j - ctB (σ.2.2.1 1) q) = q + j from by omega]
            exact zi j hj
          · have z := TlC_dj l 3 hq.2.2.2.2.2.1 r q hr ql
            have z2' : r + hdW (uN (σ.2.2.1 3 r)) < q := by
              rcases z with w | w | w <;> omega
            have z3' := ct_lt (σ.2.2.1 1) (show r + (hdW (uN (σ.2.2.1 3 r)) + 1) ≤ q by omega)
            rw [ct_m hb hr h1 (Nat.le_refl _)] at z3'
            rw [if_neg (by omega), zo _ (by omega)]
            exact hm.1 r hr v h1 j hj
        · intro p h3
          show va_cpy Mi Mi (L'.1 3).toNatClampNeg (L'.1 1).toNatClampNeg (L'.1 2).toNatClampNeg p = _
          unfold va_cpy
          have z := ct_lt (σ.2.2.1 1) a3
          rw [ct_3 hb 3 (Nat.le_refl _)] at z
          rw [if_neg (by omega), zo p (by omega)]
          exact hm.2 p h3
      -- members renamed
      have b4 : ∀ (m : Nat) (L' : LV) (Mi : Nat → Int32), uN (L'.1 5) + m = q + 1 + hdW (uN (σ.2.2.1 3 q)) → q < uN (L'.1 5) → L'.1 3 = L.1 3 → L'.1 1 = L.1 1 → uN (L'.1 2) = 1 + hdW (uN (σ.2.2.1 3 q)) → L'.1 4 = σ.2.2.1 3 q → (∀ p, Mi p = if q < p ∧ p < uN (L'.1 5) ∧ 5 ≤ hdK (uN (σ.2.2.1 3 q)) then rnm (σ.2.2.1 1) (σ.2.2.1 3 p) else Mc p) → Tm (fun k => y_X1_moveCells k 4 L' (uF σ 3 Mi)) (fun r => ∃ Mc', r.2 = hpC σ (ctB (σ.2.2.1 1) t) Mc' ∧ MvM l (σ.2.2.1 3) (σ.2.2.1 1) Mc' t) := by
        intro m
        induction m with
        | zero =>
          intro L' Mi z5 z5' z3 z1 z2 z4 zM
          refine Tm_suc (fun k => by rw [y_X1_moveCells]) ?_
          refine Tm_yes ?_ (b5 _ Mi z3 z1 z2 ?_ ?_)
          · rw [u_le (by rw [u_add (by rw [z3]; omega), z3]; omega) (by omega), u_add (by rw [z3]; omega), z3]
            omega
          · intro j hj
            rw [zM]
            unfold rnw
            by_cases v : j = 0 ∨ hdK (uN (σ.2.2.1 3 q)) < 5
            · rw [if_pos v, if_neg (by omega)]
              exact hp _ (by omega)
            · rw [if_neg v, if_pos (by omega)]
          · intro p h1
            rw [zM, if_neg (by omega)]
        | succ m ih2 =>
          intro L' Mi z5 z5' z3 z1 z2 z4 zM
          have u5 : uN (5 : Int32) = 5 := rfl
          have k8 : hdK (uN (σ.2.2.1 3 q)) < 8 := Nat.mod_lt _ (by decide)
          refine Tm_suc (fun k => by rw [y_X1_moveCells]) ?_
          refine Tm_no ?_ ?_
          · rw [u_le (by rw [u_add (by rw [z3]; omega), z3]; omega) (by omega), u_add (by rw [z3]; omega), z3]
            omega
          rw [z4, e_knd]
          refine Tm_ite (fun k5 => ?_) (fun k5 => ?_)
          · rw [u_ltn (by rw [u_n (by omega)]; omega) (by omega), u_n (by omega)] at k5
            refine b5 _ Mi z3 z1 z2 ?_ ?_
            · intro j hj
              rw [zM, if_neg (by omega)]
              unfold rnw
              rw [if_pos (Or.inr (by omega))]
              exact hp _ (by omega)
            · intro p h1
              rw [zM, if_neg (by omega)]
          · rw [u_ltn (by rw [u_n (by omega)]; omega) (by omega), u_n (by omega)] at k5
            have k5' : 5 ≤ hdK (uN (σ.2.2.1 3 q)) := by omega
            have w5 := hdW_5 k5'
            have i5 : ¬ (L'.1 5 < 0 ∨ sN (uF σ 3 Mi) 3 ≤ (L'.1 5).toNatClampNeg) := u_in (by show _ < sN σ 3; omega) (by show sN σ 3 ≤ _; omega)
            have e5 : (uF σ 3 Mi).2.2.1 3 (L'.1 5).toNatClampNeg = σ.2.2.1 3 (uN (L'.1 5)) := by
              show Mi (L'.1 5).toNatClampNeg = _
              rw [u_cl (by omega), zM, if_neg (by omega)]
              exact hp _ (by omega)
            have mem := (cg.2.2.2.2.2.2.2.2.2.1 k5').2.2 (uN (L'.1 5) - q - 1) (by omega)
            rw [show q + 1 + (uN (L'.1 5) - q - 1) = uN (L'.1 5) from by omega] at mem
            have b7 : ∀ L2 : LV, L2.1 101 = L'.1 5 → L2.1 100 = rnm (σ.2.2.1 1) (σ.2.2.1 3 (uN (L'.1 5))) → L2.1 5 = L'.1 5 → L2.1 3 = L.1 3 → L2.1 1 = L.1 1 → L2.1 2 = L'.1 2 → L2.1 4 = σ.2.2.1 3 q → Tm (fun k => y_X1_moveCells k 7 L2 (uF σ 3 Mi)) (fun r => ∃ Mc', r.2 = hpC σ (ctB (σ.2.2.1 1) t) Mc' ∧ MvM l (σ.2.2.1 3) (σ.2.2.1 1) Mc' t) := by
              intro L2 y101 y100 y5 y3 y1 y2 y4
              refine Tm_suc (fun k => by rw [y_X1_moveCells]) ?_
              refine Tm_chk (by rw [y101]; exact i5) ?_
              rw [uF_a]
              refine ih2 _ _ ?_ ?_ ?_ ?_ ?_ ?_ ?_
              · show uN (L2.1 5 + 1) + m = _
                rw [y5, u_inc (by omega)]; omega
              · show q < uN (L2.1 5 + 1)
                rw [y5, u_inc (by omega)]; omega
              · exact y3
              · exact y1
              · show uN (L2.1 2) = _
                rw [y2]; exact z2
              · exact y4
              · intro p
                show upd Mi (L2.1 101).toNatClampNeg (L2.1 100) p = if q < p ∧ p < uN (L2.1 5 + 1) ∧ 5 ≤ hdK (uN (σ.2.2.1 3 q)) then rnm (σ.2.2.1 1) (σ.2.2.1 3 p) else Mc p
                rw [y5, u_inc (by omega), y101, u_cl (by omega), y100]
                by_cases v : p = uN (L'.1 5)
                · rw [v, upd_same, if_pos (by omega)]
                · rw [upd_other v, zM]
                  by_cases w : q < p ∧ p < uN (L'.1 5) ∧ 5 ≤ hdK (uN (σ.2.2.1 3 q))
                  · rw [if_pos w, if_pos (by omega)]
                  · rw [if_neg w, if_neg (by omega)]
            refine Tm_chk i5 ?_
            rw [e5]
            refine Tm_ite (fun c3 => ?_) (fun c3 => ?_)
            · rw [lt_3] at c3
              refine Tm_suc (fun k => by rw [y_X1_moveCells]) ?_
              refine Tm_chk i5 ?_
              refine b7 _ ?_ ?_ ?_ ?_ ?_ ?_ ?_
              · rfl
              · show (uF σ 3 Mi).2.2.1 3 (L'.1 5).toNatClampNeg = _
                rw [e5]
                exact (if_neg c3).symm
              · rfl
              · exact z3
              · exact z1
              · rfl
              · exact z4
            · rw [lt_3] at c3
              have c4 := Classical.not_not.1 c3
              have gm := HQ_c hq (Gv_c mem.1 c4.2).2
              have iu := in_u hq gm.1
              refine Tm_chk i5 ?_
              refine Tm_ocE (c_placeOfP hB iu.2.2.1 (by show sN σ 2 = sN σ 1; rcases hq.2.2.1 with w | w <;> omega) iu.1) ?_
              refine b7 _ ?_ ?_ ?_ ?_ ?_ ?_ ?_
              · rfl
              · exact (if_pos c4).symm
              · rfl
              · exact z3
              · exact z1
              · rfl
              · exact z4
      refine b4 (hdW (uN (σ.2.2.1 3 q))) _ Mc ?_ ?_ ?_ ?_ ?_ ?_ ?_
      · show uN (L.1 3 + 1) + _ = _
        rw [u_inc (by omega)]; omega
      · show q < uN (L.1 3 + 1)
        rw [u_inc (by omega)]; omega
      · rfl
      · rfl
      · exact ew
      · rfl
      · intro p
        have u5 : uN (L.1 3 + 1) = q + 1 := by rw [u_inc (by omega), l3]
        exact (if_neg (fun z => by
          have z1 := z.1
          have z2 : p < uN (L.1 3 + 1) := z.2.1
          omega)).symm
theorem c_moveCells (hq : HQ g l t σ) (hb : BI g l (σ.2.2.1 3) (σ.2.2.1 1)) (hB : BfU (sN σ 1) (σ.2.2.1 1) (σ.2.2.1 2)) : Tm (fun k => y_X1_moveCells k 0 L σ) (fun r => ∃ Mc', r.2 = hpC σ (ctB (σ.2.2.1 1) t) Mc' ∧ MvM l (σ.2.2.1 3) (σ.2.2.1 1) Mc' t) := by
  refine Tm_suc (fun k => by rw [y_X1_moveCells]) ?_
  have e := uF_id σ 3
  have z := mv_1 hq hb hB l 3 (lI (lI L 1 3) 3 3) (σ.2.2.1 3) hq.2.2.2.2.2.1 (fun _ z => z) (Nat.le_refl _) rfl (ct_3 hb 3 (Nat.le_refl _)).symm (fun _ _ => rfl) ⟨fun r hr hlt => ?_, fun _ _ => rfl⟩
  · rw [e] at z
    exact z
  · have w := (TlC_ge l 3 hq.2.2.2.2.2.1 r hr).1
    omega
/-- the good cells behind a move, and the cells -/
def gM (l : List Nat) (U : Nat → Int32) (p : Nat) : Prop := ∃ q, (q < 3 ∨ (q ∈ l ∧ bI U q = 1)) ∧ p = ctB U q
def lsM (U : Nat → Int32) : List Nat → List Nat
  | [] => []
  | q :: l => if bI U q = 1 then ctB U q :: lsM U l else lsM U l
theorem lsM_mem : ∀ (l : List Nat) (q : Nat), q ∈ l → bI U q = 1 → ctB U q ∈ lsM U l
  | [], q, h, _ => absurd h List.not_mem_nil
  | r :: l, q, h, h1 => by
    unfold lsM
    rcases List.mem_cons.1 h with e | e
    · rw [← e, if_pos h1]
      exact List.mem_cons_self
    · split
      · exact List.mem_cons_of_mem _ (lsM_mem l q e h1)
      · exact lsM_mem l q e h1
theorem TlC_mv (hb : BI g l M U) (hM : ∀ q, q ∈ l → bI U q = 1 → M' (ctB U q) = M q) : ∀ (l' : List Nat) (a : Nat), (∀ q, q ∈ l' → q ∈ l) → TlC M t a l' → TlC M' (ctB U t) (ctB U a) (lsM U l')
  | [], a, _, h => by
    have e : a = t := h
    rw [e]
    rfl
  | q :: l', a, sub, h => by
    obtain ⟨h1, h2, h3, h4⟩ := h
    subst h1
    have ql := sub q List.mem_cons_self
    have ih := TlC_mv hb hM l' _ (fun r hr => sub r (List.mem_cons_of_mem _ hr)) h4
    unfold lsM
    rw [show q + 1 + hdW (uN (M q)) = q + (hdW (uN (M q)) + 1) from by omega] at ih h3
    by_cases c : bI U q = 1
    · rw [if_pos c]
      rw [ct_m hb ql c (Nat.le_refl _)] at ih
      have lt := ct_lt U h3
      rw [ct_m hb ql c (Nat.le_refl _)] at lt
      refine ⟨rfl, ?_, ?_, ?_⟩
      · rw [hM q ql c]; exact h2
      · rw [hM q ql c]; omega
      · rw [hM q ql c, show ctB U q + 1 + hdW (uN (M q)) = ctB U q + (hdW (uN (M q)) + 1) from by omega]
        exact ih
    · rw [if_neg c]
      rw [ct_u hb ql ((bI_2 U q).resolve_right c) (Nat.le_refl _)] at ih
      exact ih
theorem Gv_mv (hq : HQ g l t σ) (hb : BI g l (σ.2.2.1 3) U) (hx : Gv g x) (hm : MkV U x) : Gv (gM l U) (rnm U x) := by
  unfold rnm
  by_cases c : 3 ≤ uN x ∧ uN x < 2147483648
  · rw [if_pos c]
    have gc := Gv_c hx c.2
    have cl := ct_le U (uN x)
    right
    rw [u_n (by omega)]
    refine ⟨by omega, uN x, Or.inr ⟨?_, hm c.1 c.2⟩, rfl⟩
    rcases (hq.2.2.2.2.2.2 _ gc.2).1 with z | z
    · omega
    · exact z
  · rw [if_neg c]
    rcases hx with z | z
    · exact Or.inl z
    · exact Or.inr ⟨z.1, uN x, Or.inl (by omega), (ct_3 hb _ (by omega)).symm⟩
theorem hgt_mv (hq : HQ g l t σ) (hx : Gw g x) (hm : MkV U x) (h0 : ∀ q, q ∈ l → bI U q = 1 → M' (ctB U q) = σ.2.2.1 3 q) (h3 : ∀ p, p < 3 → M' p = σ.2.2.1 3 p) : hgt M' (rnm U x) = hgt (σ.2.2.1 3) x ∧ (uN x < 2147483648 → uN (rnm U x) < 2147483648 ∧ M' (uN (rnm U x)) = σ.2.2.1 3 (uN x)) := by
  unfold rnm
  by_cases c : 3 ≤ uN x ∧ uN x < 2147483648
  · rw [if_pos c]
    have gc := Gw_c hx c.2
    have cl := ct_le U (uN x)
    have xl : uN x ∈ l := by
      rcases (hq.2.2.2.2.2.2 _ gc.2).1 with z | z
      · omega
      · exact z
    have e := h0 _ xl (hm c.1 c.2)
    unfold hgt
    rw [u_n (by omega), if_pos (by omega), if_pos c.2, e]
    exact ⟨rfl, fun _ => ⟨by omega, rfl⟩⟩
  · rw [if_neg c]
    unfold hgt
    by_cases d : uN x < 2147483648
    · rw [if_pos d, h3 _ (by omega)]
      exact ⟨(if_pos d).symm, fun _ => ⟨d, rfl⟩⟩
    · exact ⟨by rw [if_neg d, if_neg d], fun z => absurd z d⟩
/-- the heap behind a move -/
theorem HQ_mv (hq : HQ g l t σ) (hb : BI g l (σ.2.2.1 3) U) (hc : ∀ q, q ∈ l → bI U q = 1 → ClU (σ.2.2.1 3) U q) (hm : MvM l (σ.2.2.1 3) U M' t) (e1 : σ'.1 1 = nI (ctB U t)) (e3 : σ'.2.2.1 3 = M') (en : σ'.2.2.2.2.1 = σ.2.2.2.2.1) : HQ (gM l U) (lsM U l) (ctB U t) σ' := by
  have sn : ∀ k, sN σ' k = sN σ k := fun k => by unfold sN; rw [en]
  have cl := ct_le U t
  have c3 := ct_lt U hq.2.1.1
  rw [ct_3 hb 3 (Nat.le_refl _)] at c3
  have tl := TlC_ge l 3 hq.2.2.2.2.2.1
  have h0 : ∀ q, q ∈ l → bI U q = 1 → M' (ctB U q) = σ.2.2.1 3 q := by
    intro q h1 h2
    have z := hm.1 q h1 (by have := tl q h1; omega) h2 0 (Nat.zero_le _)
    rw [Nat.add_zero] at z
    rw [z]
    exact if_pos (Or.inl rfl)
  refine ⟨e1, ?_, ?_, ?_, ?_, ?_, ?_⟩
  · rw [sn]
    have := hq.2.1
    omega
  · rw [sn, sn, sn]
    exact hq.2.2.1
  · exact ⟨⟨0, Or.inl (by decide), (ct_3 hb 0 (by decide)).symm⟩, ⟨1, Or.inl (by decide), (ct_3 hb 1 (by decide)).symm⟩, ⟨2, Or.inl (by decide), (ct_3 hb 2 (by decide)).symm⟩⟩
  · rw [e3, hm.2 0 (by decide), hm.2 1 (by decide), hm.2 2 (by decide)]
    exact hq.2.2.2.2.1
  · rw [e3]
    have z := TlC_mv hb h0 l 3 (fun _ z => z) hq.2.2.2.2.2.1
    rw [ct_3 hb 3 (Nat.le_refl _)] at z
    exact z
  · rw [e3]
    intro p hp
    obtain ⟨q, d, e⟩ := hp
    rcases d with d | ⟨ql, q1⟩
    · have ep : p = q := by rw [e]; exact ct_3 hb q (by omega)
      subst ep
      refine ⟨Or.inl d, ?_⟩
      have gq : g p := by
        rcases (show p = 0 ∨ p = 1 ∨ p = 2 by omega) with z | z | z <;> rw [z]
        · exact hq.2.2.2.1.1
        · exact hq.2.2.2.1.2.1
        · exact hq.2.2.2.1.2.2
      have cg := (hq.2.2.2.2.2.2 p gq).2
      have eh := hm.2 p d
      have l0 : hdL (uN (σ.2.2.1 3 p)) = 0 := by
        rcases (show p = 0 ∨ p = 1 ∨ p = 2 by omega) with z | z | z <;> rw [z]
        · rw [hq.2.2.2.2.1.1]; decide
        · rw [hq.2.2.2.2.1.2.1]; decide
        · rw [hq.2.2.2.2.1.2.2]; decide
      have w0 : hdW (uN (σ.2.2.1 3 p)) = 0 := by
        unfold hdW
        rw [l0]
        split <;> rfl
      unfold CGo at cg ⊢
      rw [eh]
      refine ⟨cg.1, by omega, cg.2.2.1, cg.2.2.2.1, cg.2.2.2.2.1, fun k => ⟨by omega, (cg.2.2.2.2.2.1 k).2.1, fun i hi => absurd hi (by omega)⟩, fun _ _ i hi => absurd hi (by omega)⟩
    · have gq := hb.2.1 q ql q1
      have cg := (hq.2.2.2.2.2.2 q gq).2
      have tq := tl q ql
      have eh := h0 q ql q1
      have lt := ct_lt U (show q + (hdW (uN (σ.2.2.1 3 q)) + 1) ≤ t by omega)
      rw [ct_m hb ql q1 (Nat.le_refl _)] at lt
      refine ⟨Or.inr ?_, ?_⟩
      · rw [e]; exact lsM_mem l q ql q1
      · unfold CGo at cg ⊢
        rw [e, eh]
        have mem : 5 ≤ hdK (uN (σ.2.2.1 3 q)) → ∀ i, i < hdL (uN (σ.2.2.1 3 q)) → M' (ctB U q + 1 + i) = rnm U (σ.2.2.1 3 (q + 1 + i)) := by
          intro k i hi
          have w5 := hdW_5 k
          have z := hm.1 q ql (by omega) q1 (1 + i) (by omega)
          rw [show ctB U q + 1 + i = ctB U q + (1 + i) from by omega, z]
          unfold rnw
          rw [if_neg (by omega), show q + (1 + i) = q + 1 + i from by omega]
        have mv : 5 ≤ hdK (uN (σ.2.2.1 3 q)) → ∀ i, i < hdL (uN (σ.2.2.1 3 q)) → MkV U (σ.2.2.1 3 (q + 1 + i)) := fun k i hi a b => hc q ql q1 k i hi a b
        refine ⟨cg.1, by omega, cg.2.2.1, cg.2.2.2.1, cg.2.2.2.2.1, fun k => ⟨(cg.2.2.2.2.2.1 k).1, (cg.2.2.2.2.2.1 k).2.1, fun i hi => ?_⟩, fun k f i hi => ?_⟩
        · have z := (cg.2.2.2.2.2.1 k).2.2 i hi
          rw [mem k i hi, (hgt_mv hq (Or.inl z.1) (mv k i hi) h0 hm.2).1]
          exact ⟨Gv_mv hq hb z.1 (mv k i hi), z.2⟩
        · have k5 : 5 ≤ hdK (uN (σ.2.2.1 3 q)) := by omega
          have z := (cg.2.2.2.2.2.1 k5).2.2 i hi
          have y := cg.2.2.2.2.2.2 k f i hi
          have w := (hgt_mv hq (Or.inl z.1) (mv k5 i hi) h0 hm.2).2 y.1
          rw [mem k5 i hi, w.2]
          exact ⟨w.1, y.2⟩
end CSN
