/-- the signs of the reference, as kinds of the house -/
def sgC : List Int32 := [0, 5, 6, 7, 8, 9, 10, 11, 12, 13, 14, 15, 16, 17, 18, 19, 28, 20, 21, 22, 23, 24, 25, 26, 27]
/-- one kind of token on both sides -/
def kRel (k km wm : Int32) : Prop := (k = 1 ∧ km = 0) ∨ (k = 2 ∧ km = 1) ∨ (k = 3 ∧ km = 2) ∨ (k = 4 ∧ km = 3) ∨ (km = 4 ∧ ∃ v : Nat, 1 ≤ v ∧ v ≤ 24 ∧ wm = nI v ∧ k = sgC.getD v 0) ∨ (km = 5 ∧ ∃ v : Nat, v < 53 ∧ wm = nI v ∧ k = 32 + nI v)
def signB (c : Int32) (b61 b42 b46 : Bool) : Int32 := if c = 35 then 23 else if c = 40 then 6 else if c = 41 then 7 else if c = 42 then (if b42 = true then 5 else 4) else if c = 43 then 2 else if c = 44 then 12 else if c = 45 then 3 else if c = 46 then (if b46 = true then 16 else 0) else if c = 47 then (if b61 = true then 18 else 24) else if c = 58 then (if b61 = true then 1 else 14) else if c = 59 then 13 else if c = 60 then (if b61 = true then 20 else 19) else if c = 61 then 17 else if c = 62 then (if b61 = true then 22 else 21) else if c = 91 then 10 else if c = 93 then 11 else if c = 123 then 8 else if c = 124 then 15 else if c = 125 then 9 else 0
def sgB (kd : Int32) (b61 b42 b46 : Bool) : Int32 × Nat :=
  if b61 = true ∧ (kd = 27 ∨ kd = 22 ∨ kd = 24 ∨ kd = 18) then (if kd = 18 then 5 else if kd = 27 then 21 else kd + 1, 1)
  else if (kd = 8 ∧ b42 = true) ∨ (kd = 29 ∧ b46 = true) then (if kd = 8 then 9 else 28, 1)
  else (kd, 0)
theorem signF_B (c d : Int32) : signF c d = signB c (decide (d = 61)) (decide (d = 42)) (decide (d = 46)) := by
  simp only [signF, signB, decide_eq_true_eq]
theorem sgK_B (kd nx : Int32) : sgK kd nx = sgB kd (decide (nx = 61)) (decide (nx = 42)) (decide (nx = 46)) := by
  simp only [sgK, sgB, decide_eq_true_eq]
theorem signF_hi {c d : Int32} (h : 128 ≤ c.toInt) : signF c d = 0 := by
  have ne : ∀ k : Int32, k.toInt < 128 → ¬ c = k := fun k hk e => by rw [e] at h; omega
  unfold signF
  rw [if_neg (ne 35 (by decide)), if_neg (ne 40 (by decide)), if_neg (ne 41 (by decide)), if_neg (ne 42 (by decide)), if_neg (ne 43 (by decide)), if_neg (ne 44 (by decide)), if_neg (ne 45 (by decide)), if_neg (ne 46 (by decide)), if_neg (ne 47 (by decide)), if_neg (ne 58 (by decide)), if_neg (ne 59 (by decide)), if_neg (ne 60 (by decide)), if_neg (ne 61 (by decide)), if_neg (ne 62 (by decide)), if_neg (ne 91 (by decide)), if_neg (ne 93 (by decide)), if_neg (ne 123 (by decide)), if_neg (ne 124 (by decide)), if_neg (ne 125 (by decide))]
abbrev sgOK (sg : Int32) (gB : Int32 × Nat) : Prop := (badK gB.1 ↔ sg = 0) ∧ (¬ sg = 0 → (1 ≤ sg.toNatClampNeg ∧ sg.toNatClampNeg ≤ 24 ∧ sg = nI sg.toNatClampNeg ∧ gB.1 = sgC.getD sg.toNatClampNeg 0 ∧ 1 + gB.2 = (if sg = 1 ∨ sg = 5 ∨ sg = 16 ∨ sg = 18 ∨ sg = 20 ∨ sg = 22 then 2 else 1)))
def sgOKb (sg : Int32) (gB : Int32 × Nat) : Bool := decide (badK gB.1 ↔ sg = 0) && (decide (sg = 0) || decide (1 ≤ sg.toNatClampNeg ∧ sg.toNatClampNeg ≤ 24 ∧ sg = nI sg.toNatClampNeg ∧ gB.1 = sgC.getD sg.toNatClampNeg 0 ∧ 1 + gB.2 = (if sg = 1 ∨ sg = 5 ∨ sg = 16 ∨ sg = 18 ∨ sg = 20 ∨ sg = 22 then 2 else 1)))
theorem sgOKb_ok {sg : Int32} {gB : Int32 × Nat} (h : sgOKb sg gB = true) : sgOK sg gB := by
  unfold sgOKb at h
  rw [Bool.and_eq_true] at h
  refine ⟨of_decide_eq_true h.1, fun g => ?_⟩
  rcases (Bool.or_eq_true _ _).mp h.2 with q | q
  · exact absurd (of_decide_eq_true q) g
  · exact of_decide_eq_true q
def sgCk (c t : Nat) : Bool := decide (lxC.getD c 0 = 2 ∨ lxC.getD c 0 = 3 ∨ lxC.getD c 0 = 4 ∨ lxC.getD c 0 = 31) || sgOKb (signB (nI c) (t.testBit 0) (t.testBit 1) (t.testBit 2)) (sgB (lxC.getD c 0) (t.testBit 0) (t.testBit 1) (t.testBit 2))
set_option maxRecDepth 20000 in
theorem sign_ck : ∀ c : Nat, c < 128 → ∀ t : Nat, t < 8 → sgCk c t = true := by decide +kernel
theorem sign_all0 (c : Nat) (hc : c < 128) (t : Nat) (ht : t < 8) (h : ¬ (lxC.getD c 0 = 2 ∨ lxC.getD c 0 = 3 ∨ lxC.getD c 0 = 4 ∨ lxC.getD c 0 = 31)) : sgOK (signB (nI c) (t.testBit 0) (t.testBit 1) (t.testBit 2)) (sgB (lxC.getD c 0) (t.testBit 0) (t.testBit 1) (t.testBit 2)) := by
  rcases (Bool.or_eq_true _ _).mp (sign_ck c hc t ht) with q | q
  · exact absurd (of_decide_eq_true q) h
  · exact sgOKb_ok q
theorem sign_all {c : Nat} (hc : c < 128) (h : ¬ (lxC.getD c 0 = 2 ∨ lxC.getD c 0 = 3 ∨ lxC.getD c 0 = 4 ∨ lxC.getD c 0 = 31)) (b61 b42 b46 : Bool) : sgOK (signB (nI c) b61 b42 b46) (sgB (lxC.getD c 0) b61 b42 b46) := by
  cases b61 <;> cases b42 <;> cases b46
  · exact sign_all0 c hc 0 (by decide) h
  · exact sign_all0 c hc 4 (by decide) h
  · exact sign_all0 c hc 2 (by decide) h
  · exact sign_all0 c hc 6 (by decide) h
  · exact sign_all0 c hc 1 (by decide) h
  · exact sign_all0 c hc 5 (by decide) h
  · exact sign_all0 c hc 3 (by decide) h
  · exact sign_all0 c hc 7 (by decide) h
theorem nb1 : ¬ badK 1 := by decide
theorem nb2 : ¬ badK 2 := by decide
theorem nb3 : ¬ badK 3 := by decide
theorem nb4 : ¬ badK 4 := by decide
theorem z06 : ¬ (0 : Int32) = 6 := by decide
theorem z16 : ¬ (1 : Int32) = 6 := by decide
theorem z26 : ¬ (2 : Int32) = 6 := by decide
theorem z56 : ¬ (5 : Int32) = 6 := by decide
theorem z36 : ¬ (3 : Int32) = 6 := by decide
theorem wordF_val (s : List Int32) : ∀ (m w : Nat), m + w = 53 → wordF s m w = -1 ∨ ∃ v : Nat, v < 53 ∧ wordF s m w = nI v ∧ wdL.getD v [] = s
  | 0, w, _ => Or.inl rfl
  | m + 1, w, h => by
    show (if wdL.getD w [] = s then nI w else wordF s m (w + 1)) = -1 ∨ ∃ v : Nat, v < 53 ∧ (if wdL.getD w [] = s then nI w else wordF s m (w + 1)) = nI v ∧ _
    by_cases c : wdL.getD w [] = s
    · rw [if_pos c]; exact Or.inr ⟨w, by omega, rfl, c⟩
    · rw [if_neg c]; exact wordF_val s m (w + 1) (by omega)
section TK
variable {T R : Nat → Int32} {n q : Nat}
/-- both sides read one token: both find a fault, or its end and its kind are the same -/
theorem tok_same (h : sameT T R n) (hq : q ≤ n) (hnb : q < n → ¬ cls (R q) = 31) (w0 : Int32) (hi lo : Int64) : (badK (tokC lxW hi lo R n q).1 ↔ (tokM w0 T n q).1 = 6) ∧ (¬ badK (tokC lxW hi lo R n q).1 → (tokC lxW hi lo R n q).2.1 = (tokM w0 T n q).2.2 ∧ kRel (tokC lxW hi lo R n q).1 (tokM w0 T n q).1 (tokM w0 T n q).2.1) := by
  unfold tokC tokM
  by_cases c : q = n
  · rw [if_pos (by omega), if_pos c]
    exact ⟨⟨fun g => absurd g nb1, fun g => absurd g z06⟩, fun _ => ⟨rfl, Or.inl ⟨rfl, rfl⟩⟩⟩
  rw [if_neg (by omega), if_neg c]
  have hlt : q < n := by omega
  have hf := h.2.1 q (by omega)
  obtain ⟨kL, kD, kS, kU⟩ := same_kind h hlt
  rw [rB_in hlt]
  by_cases d2 : cls (R q) = 2
  · -- a name
    rw [if_pos d2, if_pos (kL.mpr d2), name_same h (n + 1) q]
    have hle := nameE_le T n (n + 1) q hq
    have hge := nameE_ge T n (n + 1) q
    have hall := nameE_all T n (n + 1) q
    generalize nameE T n (n + 1) q = e at hle hge hall ⊢
    have hok : ∀ i, q ≤ i → i < e → okB (R i) ∧ T i = R i := fun i a b => by
      have hn := hall i a b
      have ht := t_int h (i := i) (by omega)
      have hb := fits_byte' (h.2.1 i (by omega))
      have : 48 ≤ (T i).toInt ∧ (T i).toInt ≤ 122 := by
        rcases hn with g | g | g
        · rw [isL_int] at g; omega
        · rw [isD_int] at g; omega
        · rw [g]; decide
      by_cases g : 0 ≤ (R i).toInt
      · rw [if_pos g] at ht; exact ⟨by omega, by rw [i_eq]; exact ht⟩
      · rw [if_neg g] at ht; omega
    by_cases h8 : e - q ≤ 8
    · rw [if_pos h8, if_pos (by omega : e - q ≤ 16)]
      have hw : wdK lxW (keyH R q (e - q)) 53 0 2 = (if wordI (seg T q e) = -1 then 2 else 32 + wordI (seg T q e)) := words_same (T := T) hge h8 (fun i a b => (hok i a b).1) (fun i a b => (hok i a b).2) 53 0 2 rfl
      rw [hw]
      clear hw
      rcases wordF_val (seg T q e) 53 0 rfl with g | ⟨v, hv, g, _⟩
      · have g : wordI (seg T q e) = -1 := g
        rw [if_pos g, if_pos g]
        exact ⟨⟨fun z => absurd z nb2, fun z => absurd z z16⟩, fun _ => ⟨rfl, Or.inr (Or.inl ⟨rfl, rfl⟩)⟩⟩
      · have g : wordI (seg T q e) = nI v := g
        have gn : ¬ wordI (seg T q e) = -1 := fun z => by
          rw [g, i_eq, n_int (by omega)] at z
          have : (-1 : Int32).toInt = -1 := rfl
          omega
        rw [if_neg gn, if_neg gn, g]
        have h32 : (32 + nI v).toInt = 32 + v := by
          rw [i_add] <;> rw [n_int (by omega), show (32 : Int32).toInt = 32 from rfl] <;> omega
        refine ⟨⟨fun z => ?_, fun z => absurd z z56⟩, fun _ => ⟨rfl, Or.inr (Or.inr (Or.inr (Or.inr (Or.inr ⟨rfl, v, hv, rfl, rfl⟩))))⟩⟩
        exfalso
        rcases z with z | z | z
        · rw [i_eq, h32] at z; have : (0 : Int32).toInt = 0 := rfl; omega
        · rw [i_eq, h32] at z; have : (29 : Int32).toInt = 29 := rfl; omega
        · rw [i_eq, h32] at z; have : (30 : Int32).toInt = 30 := rfl; omega
    · rw [if_neg h8]
      by_cases h16 : e - q ≤ 16
      · rw [if_pos h16, if_pos h16]
        have g : wordI (seg T q e) = -1 := by
          rcases wordF_val (seg T q e) 53 0 rfl with g | ⟨v, hv, _, g⟩
          · exact g
          · have := (wd_ok v hv).1
            rw [g, seg_len] at this
            omega
        rw [if_pos g]
        exact ⟨⟨fun z => absurd z nb2, fun z => absurd z z16⟩, fun _ => ⟨rfl, Or.inr (Or.inl ⟨rfl, rfl⟩)⟩⟩
      · rw [if_neg h16, if_neg h16]
        exact ⟨⟨fun _ => rfl, fun _ => Or.inl rfl⟩, fun z => absurd (Or.inl rfl) z⟩
  rw [if_neg d2, if_neg (fun g => d2 (kL.mp g))]
  by_cases d3 : cls (R q) = 3
  · -- a number
    rw [if_pos d3, if_pos (kD.mpr d3), dig_same h (n + 1) q]
    generalize digE T n (n + 1) q = e
    by_cases g : e - q ≤ 60
    · rw [if_pos g, if_pos g]
      exact ⟨⟨fun z => absurd z nb3, fun z => absurd z z26⟩, fun _ => ⟨rfl, Or.inr (Or.inr (Or.inl ⟨rfl, rfl⟩))⟩⟩
    · rw [if_neg g, if_neg g]
      exact ⟨⟨fun _ => rfl, fun _ => Or.inl rfl⟩, fun z => absurd (Or.inl rfl) z⟩
  rw [if_neg d3, if_neg (fun g => d3 (kD.mp g))]
  by_cases d4 : cls (R q) = 4
  · -- a string
    rw [if_pos d4, if_pos (kS.mpr d4), str_same h (n + 1) (q + 1)]
    have hle := strE_le T n (n + 1) (q + 1) (by omega)
    generalize strE T n (n + 1) (q + 1) = e at hle ⊢
    have e34 : (e < n ∧ R e = 34) ↔ (e < n ∧ T e = 34) := ⟨fun z => ⟨z.1, (same_eq h z.1 (k := 34) (by decide) (by decide)).mpr z.2⟩, fun z => ⟨z.1, (same_eq h z.1 (k := 34) (by decide) (by decide)).mp z.2⟩⟩
    by_cases g : (e < n ∧ T e = 34) ∧ e - q - 1 ≤ 100
    · rw [if_pos ⟨e34.mpr g.1, g.2⟩, if_pos g, if_pos g.1]
      exact ⟨⟨fun z => absurd z nb4, fun z => absurd z z36⟩, fun _ => ⟨rfl, Or.inr (Or.inr (Or.inr (Or.inl ⟨rfl, rfl⟩)))⟩⟩
    · rw [if_neg (fun z => g ⟨e34.mp z.1, z.2⟩), if_neg g]
      exact ⟨⟨fun _ => rfl, fun _ => Or.inl rfl⟩, fun z => absurd (Or.inl rfl) z⟩
  rw [if_neg d4, if_neg (fun g => d4 (kS.mp g))]
  -- a sign
  rcases cls_nat hf with ⟨h0, hc⟩ | ⟨h0, h1, hc⟩
  · have ht := t_int h hlt
    rw [if_neg (by omega)] at ht
    have hb := fits_byte' hf
    rw [hc, signF_hi (by omega), if_pos rfl]
    have e0 : sgK 0 (R (q + 1)) = (0, 0) := by
      unfold sgK
      rw [if_neg (fun z => absurd z.2 (by decide)), if_neg (fun z => z.elim (fun z => absurd z.1 (by decide)) (fun z => absurd z.1 (by decide)))]
    rw [e0]
    exact ⟨⟨fun _ => rfl, fun _ => Or.inl rfl⟩, fun z => absurd (Or.inl rfl) z⟩
  · have ht := t_int h hlt
    rw [if_pos h0] at ht
    have eT : T q = nI (R q).toInt.toNat := by rw [i_eq, n_int (by omega), ht]; omega
    have b61 := same_rB h (i := q + 1) (by omega) (k := 61) (by decide) (by decide)
    have b42 := same_rB h (i := q + 1) (by omega) (k := 42) (by decide) (by decide)
    have b46 := same_rB h (i := q + 1) (by omega) (k := 46) (by decide) (by decide)
    have hall := sign_all (c := (R q).toInt.toNat) (by omega) (by
      rw [← hc]
      exact fun z => z.elim d2 (fun z => z.elim d3 (fun z => z.elim d4 (hnb hlt)))) (decide (R (q + 1) = 61)) (decide (R (q + 1) = 42)) (decide (R (q + 1) = 46))
    rw [signF_B, sgK_B, eT, hc, decide_eq_decide.mpr b61, decide_eq_decide.mpr b42, decide_eq_decide.mpr b46]
    have key : ∀ (sg : Int32) (gB : Int32 × Nat), sgOK sg gB → (badK gB.1 ↔ (if sg = 0 then (6 : Int32) else 4) = 6) ∧ (¬ badK gB.1 → q + 1 + gB.2 = q + (if sg = 1 ∨ sg = 5 ∨ sg = 16 ∨ sg = 18 ∨ sg = 20 ∨ sg = 22 then 2 else 1) ∧ kRel gB.1 (if sg = 0 then (6 : Int32) else 4) sg) := by
      intro sg gB hall
      by_cases g : sg = 0
      · rw [if_pos g]
        exact ⟨⟨fun _ => rfl, fun _ => hall.1.mpr g⟩, fun z => absurd (hall.1.mpr g) z⟩
      · rw [if_neg g]
        obtain ⟨v1, v2, v3, v4, v5⟩ := hall.2 g
        refine ⟨⟨fun z => absurd (hall.1.mp z) g, fun z => absurd z (by decide)⟩, fun _ => ⟨?_, Or.inr (Or.inr (Or.inr (Or.inr (Or.inl ⟨rfl, _, v1, v2, v3, v4⟩))))⟩⟩
        rw [← v5]; omega
    exact key _ _ hall
end TK
