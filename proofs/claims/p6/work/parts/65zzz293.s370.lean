/-! The class: what is left of a value, subsets. -/
section CSH
variable {g g' g2 : Nat → Prop} {l l' l2 : List Nat} {t t' t2 : Nat} {σ σ' σ2 : CS} {L : LV} {x y i : Int32} {M M' : Nat → Int32}
theorem c_remainder (h : HQ g l t σ) (hf : Gv g (L.1 1)) (kk : kdC (σ.2.2.1 3) (L.1 1) = 4 ∨ kdC (σ.2.2.1 3) (L.1 1) = 5 ∨ kdC (σ.2.2.1 3) (L.1 1) = 6) (n1 : 1 ≤ lnC (σ.2.2.1 3) (L.1 1)) : Tm (fun k => y_X0_remainder k 0 L σ) (Va g t σ) := by
  have ll := lnC_lt (σ.2.2.1 3) (L.1 1)
  have el : uN (nI (lnC (σ.2.2.1 3) (L.1 1))) = lnC (σ.2.2.1 3) (L.1 1) := u_n (by omega)
  have u1 : uN 1 = 1 := rfl
  have b7 : ∀ (L' : LV) (σ' : CS), Va g t σ (L'.1 100, σ') → Tm (fun k => y_X0_remainder k 7 L' σ') (Va g t σ) := by
    intro L' σ' d
    refine Tm_suc (fun k => by rw [y_X0_remainder]) ?_
    exact Tm_some d
  have b4 : ∀ L' : LV, L'.1 1 = L.1 1 → uN (L'.1 4) ≤ uN (L'.1 100) → uN (L'.1 100) ≤ lnC (σ.2.2.1 3) (L.1 1) → Tm (fun k => y_X0_remainder k 4 L' σ) (Va g t σ) := by
    intro L' a1 a4 a5
    have es : uN (L'.1 100 - L'.1 4) = uN (L'.1 100) - uN (L'.1 4) := u_sub a4
    have hf' : Gv g (L'.1 1) := by rw [a1]; exact hf
    refine Tm_suc (fun k => by rw [y_X0_remainder]) ?_
    refine Tm_ocE (c_kind h hf') ?_
    refine Tm_ite (fun c4 => ?_) (fun c4 => ?_)
    · have k4 : kdC (σ.2.2.1 3) (L'.1 1) = 4 := kd_n (n := 4) (by decide) c4
      refine Tm_oc (cb15 h (AXf_r σ) hf' k4 ?_ (by show uN 0 ≤ 8192; decide)) (fun r q => ?_)
      · show uN (L'.1 4) + uN (L'.1 100 - L'.1 4) ≤ lnC (σ.2.2.1 3) (L'.1 1)
        rw [a1]; omega
      · refine Tm_oc (mk15 h q.1 rfl (fun _ => ?_)) (fun r z => Tm_some z)
        show uN (L'.1 100 - L'.1 4) ≤ 8192
        omega
    · have k5 : 5 ≤ kdC (σ.2.2.1 3) (L'.1 1) := by
        rcases kk with z | z | z
        · exact absurd (by show nI (kdC (σ.2.2.1 3) (L'.1 1)) = 4; rw [a1, z]; rfl) c4
        · rw [a1]; omega
        · rw [a1]; omega
      have sx : Sq5 g σ (L'.1 1) := Sq5_k hf' k5
      refine Tm_suc (fun k => by rw [y_X0_remainder]) ?_
      refine Tm_oc (c_load0 h sx (by show uN (L'.1 4) < _; omega) (by show uN (L'.1 100) ≤ lnC (σ.2.2.1 3) (L'.1 1); rw [a1]; exact a5) (by show uN 0 ≤ _; decide) (fun j hj => absurd hj (Nat.not_lt_zero j))) (fun r q => ?_)
      obtain ⟨f, f1, f2, f3⟩ := q
      rw [f1]
      refine Tm_ite (fun _ => ?_) (fun _ => ?_)
      · exact Tm_oc (mk16 (n := 0) h (AXf_F σ (k := 16) (by decide) f) (Or.inr rfl) rfl rfl f2 f3) (fun r z => b7 _ _ z)
      · refine Tm_suc (fun k => by rw [y_X0_remainder]) ?_
        exact Tm_oc (mt16 h (AXf_F σ (k := 16) (by decide) f) rfl f2 f3) (fun r z => b7 _ _ z)
  refine Tm_suc (fun k => by rw [y_X0_remainder]) ?_
  refine Tm_ocE (c_length h hf) ?_
  refine Tm_ite (fun c => ?_) (fun c => ?_)
  · refine Tm_suc (fun k => by rw [y_X0_remainder]) ?_
    refine Tm_yes c ?_
    refine b4 _ ?_ ?_ ?_
    · rfl
    · exact Nat.zero_le _
    · show uN (nI (lnC (σ.2.2.1 3) (L.1 1)) - 1) ≤ _
      rw [u_sub (by omega), el]; omega
  · refine Tm_suc (fun k => by rw [y_X0_remainder]) ?_
    refine Tm_suc (fun k => by rw [y_X0_remainder]) ?_
    refine Tm_no c ?_
    refine Tm_suc (fun k => by rw [y_X0_remainder]) ?_
    refine b4 _ ?_ ?_ ?_
    · rfl
    · show uN 1 ≤ uN (nI (lnC (σ.2.2.1 3) (L.1 1)))
      omega
    · show uN (nI (lnC (σ.2.2.1 3) (L.1 1))) ≤ _
      omega
/-- the highest bit -/
def hgB : Nat → Int32 → Int32 → Int32 → Int32
  | 0, _, _, a => a
  | m + 1, b, i, a => hgB m b (i + 1) (if ((b >>> (i &&& 31)) &&& 1) = 1 then i else a)
theorem c_highest : Tm (fun k => y_X0_highest k 0 L σ) (fun r => r = (hgB 8 (L.1 0) 0 0, σ)) := by
  have b1 : ∀ (m : Nat) (L' : LV), uN (L'.1 2) + m = 8 → Tm (fun k => y_X0_highest k 1 L' σ) (fun r => r = (hgB m (L'.1 0) (L'.1 2) (L'.1 1), σ)) := by
    intro m
    induction m with
    | zero =>
      intro L' a
      refine Tm_suc (fun k => by rw [y_X0_highest]) ?_
      refine Tm_yes (by rw [u_le (by decide) (by omega)]; show 8 ≤ _; omega) ?_
      refine Tm_suc (fun k => by rw [y_X0_highest]) ?_
      exact Tm_some rfl
    | succ m ih =>
      intro L' a
      have b4 : ∀ L2 : LV, L2.1 0 = L'.1 0 → L2.1 2 = L'.1 2 → Tm (fun k => y_X0_highest k 4 L2 σ) (fun r => r = (hgB m (L'.1 0) (L'.1 2 + 1) (L2.1 100), σ)) := by
        intro L2 z0 z2
        refine Tm_suc (fun k => by rw [y_X0_highest]) ?_
        refine Tm_mono (ih _ ?_) (fun r q => ?_)
        · show uN (L2.1 2 + 1) + m = 8
          rw [z2, u_inc (by omega)]; omega
        · rw [q]
          show (hgB m (L2.1 0) (L2.1 2 + 1) (L2.1 100), σ) = _
          rw [z0, z2]
      refine Tm_suc (fun k => by rw [y_X0_highest]) ?_
      refine Tm_no (by rw [u_le (by decide) (by omega)]; show ¬ 8 ≤ _; omega) ?_
      rw [show hgB (m + 1) (L'.1 0) (L'.1 2) (L'.1 1) = hgB m (L'.1 0) (L'.1 2 + 1) (if ((L'.1 0 >>> (L'.1 2 &&& 31)) &&& 1) = 1 then L'.1 2 else L'.1 1) from rfl]
      refine Tm_ite (fun c => ?_) (fun c => ?_)
      · rw [if_pos c]
        exact b4 _ rfl rfl
      · rw [if_neg c]
        refine Tm_suc (fun k => by rw [y_X0_highest]) ?_
        exact b4 _ rfl rfl
  refine Tm_suc (fun k => by rw [y_X0_highest]) ?_
  exact b1 8 _ rfl
/-- subsets: how many are taken, the last of them, which -/
def sbP (n : Int32) (s : Int32 × Int32 × Int32) : Int32 × Int32 × Int32 := if s.2.1 = n - 1 then (s.1 + (-1) + (-1), hgB 8 (s.2.2 &&& (((1 : Int32) <<< (s.2.1 &&& 31)) ^^^ (-1))) 0 0, (s.2.2 &&& (((1 : Int32) <<< (s.2.1 &&& 31)) ^^^ (-1))) &&& (((1 : Int32) <<< (hgB 8 (s.2.2 &&& (((1 : Int32) <<< (s.2.1 &&& 31)) ^^^ (-1))) 0 0 &&& 31)) ^^^ (-1))) else s
def sbN (p : Int32 × Int32 × Int32) : Int32 × Int32 × Int32 := (p.1 + 1, p.2.1 + 1, p.2.2 ||| ((1 : Int32) <<< ((p.2.1 + 1) &&& 31)))
def sbK : Nat → Int32 → Int32 × Int32 × Int32 → Bool
  | 0, _, _ => true
  | m + 1, n, s => decide (uN (sbP n s).1 < 8) && sbK m n (sbN (sbP n s))
theorem sb_all : ∀ n, n < 9 → sbK (2 ^ n - 1) (nI n) (0, -1, 0) = true := by decide +kernel
theorem sb_shl : ∀ n, n < 9 → uN ((1 : Int32) <<< (nI n &&& 31)) = 2 ^ n := by decide +kernel
theorem sub_dec8 : ∀ n, n < 9 → uN (nI n + (-1) + (-1)) < 8 → uN (nI n + (-1) + (-1)) ≤ n := by decide +kernel
theorem Gv_rw (h : Rw x) : Gv g x := Or.inl ⟨by have z : 4026531840 ≤ uN x := h.1; omega, Or.inr h⟩
theorem c_subsets (h : HQ g l t σ) (hx : Sq5 g σ (L.1 1)) : Tm (fun k => y_X0_subsets k 0 L σ) (Va g t σ) := by
  have ll := lnC_lt (σ.2.2.1 3) (L.1 1)
  have el : uN (nI (lnC (σ.2.2.1 3) (L.1 1))) = lnC (σ.2.2.1 3) (L.1 1) := u_n (by omega)
  have b4 : ∀ (L' : LV) (g' : Nat → Prop) (l' : List Nat) (t' : Nat) (σ' : CS), Ga g t σ g' l' t' σ' → uN (L'.1 3) ≤ 2048 → (∀ j, j < uN (L'.1 3) → Gv g' (σ'.2.2.1 16 j)) → Tm (fun k => y_X0_subsets k 4 L' σ') (Va g t σ) := by
    intro L' g' l' t' σ' a b c
    refine Tm_suc (fun k => by rw [y_X0_subsets]) ?_
    exact Tm_oc (mk16 (n := 0) a.1 (AXf_r σ') (Or.inr rfl) rfl rfl b c) (fun r z => Tm_some (Va_t a z))
  have b3 : ∀ (n : Nat), n < 9 → ∀ (m : Nat) (L' : LV) (g' : Nat → Prop) (l' : List Nat) (t' : Nat) (σ' : CS), Ga g t σ g' l' t' σ' → Sq5 g' σ' (L'.1 1) → L'.1 2 = nI n → L'.1 3 = L'.1 7 → uN (L'.1 7) + m = 2 ^ n → sbK m (nI n) (L'.1 4, L'.1 5, L'.1 6) = true → uN (L'.1 4) < 9 → (∀ j, j < uN (L'.1 3) → Gv g' (σ'.2.2.1 16 j)) → (∀ j, j < uN (L'.1 4) → Gv g' (σ'.2.2.1 17 j)) → Tm (fun k => y_X0_subsets k 3 L' σ') (Va g t σ) := by
    intro n hn
    have p9 : 2 ^ n ≤ 256 := Nat.pow_le_pow_right (n := 2) (by decide) (show n ≤ 8 by omega)
    intro m
    induction m with
    | zero =>
      intro L' g' l' t' σ' a s5 a2 a3 a7 ak a4 r16 r17
      have hp : uN ((1 : Int32) <<< (L'.1 2 &&& 31)) = 2 ^ n := by rw [a2]; exact sb_shl n hn
      refine Tm_suc (fun k => by rw [y_X0_subsets]) ?_
      refine Tm_yes (by rw [u_le (by omega) (by omega)]; omega) (b4 _ _ _ _ _ a ?_ r16)
      rw [a3]; omega
    | succ m ih =>
      intro L' g' l' t' σ' a s5 a2 a3 a7 ak a4 r16 r17
      have hp : uN ((1 : Int32) <<< (L'.1 2 &&& 31)) = 2 ^ n := by rw [a2]; exact sb_shl n hn
      have k1 : uN (sbP (nI n) (L'.1 4, L'.1 5, L'.1 6)).1 < 8 ∧ sbK m (nI n) (sbN (sbP (nI n) (L'.1 4, L'.1 5, L'.1 6))) = true := by
        have q : (decide (uN (sbP (nI n) (L'.1 4, L'.1 5, L'.1 6)).1 < 8) && sbK m (nI n) (sbN (sbP (nI n) (L'.1 4, L'.1 5, L'.1 6)))) = true := ak
        rw [Bool.and_eq_true, decide_eq_true_eq] at q
        exact q
      have b5 : ∀ L2 : LV, L2.1 1 = L'.1 1 → L2.1 2 = L'.1 2 → L2.1 3 = L'.1 3 → L2.1 7 = L'.1 7 → uN (L2.1 4) < 8 → sbK m (nI n) (L2.1 4 + 1, L2.1 5 + 1, L2.1 6 ||| ((1 : Int32) <<< ((L2.1 5 + 1) &&& 31))) = true → (∀ j, j < uN (L2.1 4) → Gv g' (σ'.2.2.1 17 j)) → Tm (fun k => y_X0_subsets k 5 L2 σ') (Va g t σ) := by
        intro L2 z1 z2 z3 z7 z4 zk zr
        have u4 : uN (L2.1 4 + 1) = uN (L2.1 4) + 1 := u_inc (by omega)
        have u3 : uN (L2.1 3) < 256 := by rw [z3, a3]; omega
        have e3 : uN (L2.1 3) = uN (L'.1 3) := by rw [z3]
        have hs : Sq5 g' σ' (L2.1 1) := by rw [z1]; exact s5
        have gm := mbC_g (y := L2.1 5 + 1) a.1 hs.1 hs.2
        refine Tm_suc (fun k => by rw [y_X0_subsets]) ?_
        refine Tm_ocE (c_member a.1 hs.1 hs.2) ?_
        refine Tm_chk (u_in z4 (by decide)) ?_
        have r17' : ∀ j, j < uN (L2.1 4 + 1) → Gv g' (upd (σ'.2.2.1 17) (L2.1 4).toNatClampNeg (mbC (σ'.2.2.1 3) (L2.1 1) (L2.1 5 + 1)) j) := by
          intro j hj
          rw [u_cl (by omega)]
          by_cases c : j = uN (L2.1 4)
          · rw [c, upd_same]; exact gm
          · rw [upd_other c]; exact zr j (by omega)
        refine Tm_oc (c_makeRow17 (HQ_X a.1 (AXf_A σ' (k := 17) (by decide) _ _)) (Or.inr rfl) (by decide) rfl (fun _ _ => ⟨?_, ?_⟩)) (fun r q => ?_)
        · show 0 + uN (L2.1 4 + 1) ≤ 8
          omega
        · show ∀ j, j < uN (L2.1 4 + 1) → Gv g' (upd (σ'.2.2.1 17) (L2.1 4).toNatClampNeg (mbC (σ'.2.2.1 3) (L2.1 1) (L2.1 5 + 1)) (0 + j))
          intro j hj
          rw [Nat.zero_add]
          exact r17' j hj
        obtain ⟨g2, l2, t2, M2, e, hq, sub, keep, le, val⟩ := q
        have gv : Gv g2 r.1 := val.elim (fun z => z.1) (fun z => Gv_rw z)
        have gr : Gr g' t' (uA σ' 17 (L2.1 4).toNatClampNeg (mbC (σ'.2.2.1 3) (L2.1 1) (L2.1 5 + 1))) g2 l2 t2 r.2 := ⟨hq, sub, fun p hp => by rw [e]; exact keep p hp, le, by rw [e]; exact VWc_h _ _ _⟩
        have ga' : Ga g' t' σ' g2 l2 t2 r.2 := Ga_t (Ga_X a.1 (AXf_A σ' (by decide) _ _)) (Ga_G gr)
        have ga : Ga g t σ g2 l2 t2 r.2 := Ga_t a ga'
        have e16 : r.2.2.2.1 16 = σ'.2.2.1 16 := by rw [e]; rfl
        have e17 : r.2.2.2.1 17 = upd (σ'.2.2.1 17) (L2.1 4).toNatClampNeg (mbC (σ'.2.2.1 3) (L2.1 1) (L2.1 5 + 1)) := by rw [e]; rfl
        refine Tm_chk (u_in (n := 2048) (by omega) (by decide)) ?_
        refine Tm_chk (u_in (n := 2048) (by omega) (by decide)) ?_
        have gw : Ga g t σ g2 l2 t2 (uA r.2 16 (L2.1 3).toNatClampNeg r.1) := Ga_t ga (Ga_X ga.1 (AXf_A r.2 (by decide) _ _))
        refine Tm_oc c_isError (fun r6 q6 => ?_)
        have e6 : r6.2 = uA r.2 16 (L2.1 3).toNatClampNeg r.1 := q6.1.1
        rw [e6]
        refine Tm_suc (fun k => by rw [y_X0_subsets]) ?_
        refine Tm_ite (fun c0 => ?_) (fun c0 => ?_)
        · refine Tm_suc (fun k => by rw [y_X0_subsets]) ?_
          refine ih _ g2 l2 t2 _ gw ?_ ?_ ?_ ?_ ?_ ?_ ?_ ?_
          · exact Sq5_X (AXf_A r.2 (by decide) _ _) (Sq5_G a.1 ga' hs)
          · exact z2.trans a2
          · show L2.1 3 + 1 = L2.1 7 + 1
            rw [z3, z7, a3]
          · show uN (L2.1 7 + 1) + m = 2 ^ n
            rw [z7, u_inc (by omega)]; omega
          · exact zk
          · show uN (L2.1 4 + 1) < 9
            omega
          · show ∀ j, j < uN (L2.1 3 + 1) → Gv g2 ((uA r.2 16 (L2.1 3).toNatClampNeg r.1).2.2.1 16 j)
            rw [u_inc (by omega), u_cl (by omega)]
            refine r16_p ?_ gv
            intro j hj
            rw [e16]
            exact Gv_sg (r16 j (by omega)) sub
          · show ∀ j, j < uN (L2.1 4 + 1) → Gv g2 (r.2.2.2.1 17 j)
            rw [e17]
            intro j hj
            exact Gv_sg (r17' j hj) sub
        · refine Tm_chk (u_in (n := 2048) (by show uN (L2.1 3) < 2048; omega) (by decide)) ?_
          refine Tm_some ⟨g2, l2, t2, gw, Or.inl ?_⟩
          show Gv g2 (upd (r.2.2.2.1 16) (L2.1 3).toNatClampNeg r.1 (L2.1 3).toNatClampNeg)
          rw [upd_same]
          exact gv
      refine Tm_suc (fun k => by rw [y_X0_subsets]) ?_
      refine Tm_no (by rw [u_le (by omega) (by omega)]; omega) ?_
      refine Tm_ite (fun c => ?_) (fun c => ?_)
      · have c' : L'.1 5 = nI n - 1 := by rw [← a2]; exact c
        have sp : sbP (nI n) (L'.1 4, L'.1 5, L'.1 6) = (L'.1 4 + (-1) + (-1), hgB 8 (L'.1 6 &&& (((1 : Int32) <<< (L'.1 5 &&& 31)) ^^^ (-1))) 0 0, (L'.1 6 &&& (((1 : Int32) <<< (L'.1 5 &&& 31)) ^^^ (-1))) &&& (((1 : Int32) <<< (hgB 8 (L'.1 6 &&& (((1 : Int32) <<< (L'.1 5 &&& 31)) ^^^ (-1))) 0 0 &&& 31)) ^^^ (-1))) := if_pos c'
        rw [sp] at k1
        have k4 : uN (L'.1 4 + (-1) + (-1)) < 8 := k1.1
        have k5 : uN (L'.1 4 + (-1) + (-1)) ≤ uN (L'.1 4) := by
          have q := sub_dec8 (uN (L'.1 4)) a4
          rw [← u_of (L'.1 4)] at q
          exact q k4
        refine Tm_ocE c_highest ?_
        refine b5 _ rfl rfl rfl rfl k4 k1.2 ?_
        show ∀ j, j < uN (L'.1 4 + (-1) + (-1)) → Gv g' (σ'.2.2.1 17 j)
        intro j hj
        exact r17 j (by omega)
      · have c' : ¬ L'.1 5 = nI n - 1 := by rw [← a2]; exact c
        have sp : sbP (nI n) (L'.1 4, L'.1 5, L'.1 6) = (L'.1 4, L'.1 5, L'.1 6) := if_neg c'
        rw [sp] at k1
        exact b5 _ rfl rfl rfl rfl k1.1 k1.2 r17
  have b1 : ∀ L' : LV, Tm (fun k => y_X0_subsets k 1 L' σ) (Va g t σ) := by
    intro L'
    refine Tm_suc (fun k => by rw [y_X0_subsets]) ?_
    exact Tm_some (Va_e h (AXf_r σ) eSize)
  refine Tm_suc (fun k => by rw [y_X0_subsets]) ?_
  refine Tm_ocE (c_length h hx.1) ?_
  refine Tm_ite (fun _ => b1 _) (fun c => ?_)
  have c' : ¬ (8 : Int32) < nI (lnC (σ.2.2.1 3) (L.1 1)) := c
  rw [u_ltn (by decide) (by omega), el] at c'
  have c8 : lnC (σ.2.2.1 3) (L.1 1) < 9 := by
    have e8 : uN 8 = 8 := rfl
    omega
  refine Tm_oc (c_size h hx.1) (fun r q => ?_)
  have e : r.2 = σ := q.1
  rw [e]
  refine Tm_ite (fun _ => ?_) (fun _ => b1 _)
  refine Tm_suc (fun k => by rw [y_X0_subsets]) ?_
  refine Tm_chk (by decide) ?_
  have pp : 1 ≤ 2 ^ lnC (σ.2.2.1 3) (L.1 1) := Nat.one_le_two_pow
  refine b3 (lnC (σ.2.2.1 3) (L.1 1)) c8 (2 ^ lnC (σ.2.2.1 3) (L.1 1) - 1) _ g l t _ (Ga_X h (AXf_A σ (by decide) _ _)) ?_ ?_ ?_ ?_ ?_ ?_ ?_ ?_
  · exact Sq5_X (AXf_A σ (by decide) _ _) hx
  · rfl
  · rfl
  · show 1 + (2 ^ lnC (σ.2.2.1 3) (L.1 1) - 1) = _
    omega
  · exact sb_all _ c8
  · show uN 0 < 9
    decide
  · show ∀ j, j < 1 → Gv g (upd (σ.2.2.1 16) (0 : Int32).toNatClampNeg 2 j)
    intro j hj
    have e0 : j = (0 : Int32).toNatClampNeg := by show j = 0; omega
    rw [e0, upd_same]
    exact Or.inr ⟨by decide, h.2.2.2.1.2.2⟩
  · show ∀ j, j < 0 → _
    intro j hj
    exact absurd hj (Nat.not_lt_zero j)
end CSH
