section JnS103
/-! Wholes as numbers; powers (reference). -/
section INO
variable {g : Nat → Prop} {l : List Nat} {B h t : Nat} {σ : MS}
theorem w_le {x y : Int64} : x ≤ y ↔ x.toInt ≤ y.toInt := Int64.le_iff_toInt_le
theorem w_lt {x y : Int64} : x < y ↔ x.toInt < y.toInt := Int64.lt_iff_toInt_lt
theorem w_cmp {x y : Int64} : nbCmp x y ≤ 0 ↔ x.toInt ≤ y.toInt := by
  unfold nbCmp
  by_cases h : y < x
  · rw [if_pos h]
    have h := w_lt.mp h
    exact ⟨fun z => absurd z (by decide), fun z => absurd z (by omega)⟩
  · rw [if_neg h]
    have h2 : x.toInt ≤ y.toInt := by
      by_cases z : y.toInt < x.toInt
      · exact absurd (w_lt.mpr z) h
      · omega
    by_cases e : x = y
    · rw [if_pos e]; exact ⟨fun _ => h2, fun _ => by decide⟩
    · rw [if_neg e]; exact ⟨fun _ => h2, fun _ => by decide⟩
/-- sixteen bits more -/
theorem w_more {x : Int64} {d : Nat} (h0 : 0 ≤ x.toInt) (h1 : x.toInt < 2147483648) (hd : d ≤ 65535) : 0 ≤ ((x <<< ((16 : Int32).toInt64 &&& 63)) ||| (nI d).toInt64).toInt := by
  have hx : x.toBitVec.toNat < 2 ^ 31 := by
    have e : x.toBitVec.toInt = x.toInt := rfl
    rw [BitVec.toInt_eq_toNat_cond] at e
    have := x.toBitVec.isLt
    split at e <;> omega
  have hd2 : (nI d).toInt64.toBitVec.toNat = d := by
    have e : ((nI d).toInt64.toBitVec).toInt = d := w_int (by omega)
    rw [BitVec.toInt_eq_toNat_cond] at e
    have := (nI d).toInt64.toBitVec.isLt
    split at e <;> omega
  have hs : (x <<< ((16 : Int32).toInt64 &&& 63)).toBitVec.toNat = x.toBitVec.toNat * 65536 := by
    show (x.toBitVec <<< (((16 : Int32).toInt64 &&& 63).toBitVec.smod 64)).toNat = _
    rw [BitVec.shiftLeft_eq', BitVec.toNat_shiftLeft, show (((16 : Int32).toInt64 &&& 63).toBitVec.smod 64).toNat = 16 from by decide, Nat.shiftLeft_eq]
    show x.toBitVec.toNat * 65536 % 2 ^ 64 = _
    rw [Nat.mod_eq_of_lt (by omega)]
  show 0 ≤ ((x <<< ((16 : Int32).toInt64 &&& 63)) ||| (nI d).toInt64).toBitVec.toInt
  have hn : ((x <<< ((16 : Int32).toInt64 &&& 63)) ||| (nI d).toInt64).toBitVec.toNat < 2 ^ 47 := by
    rw [Int64.toBitVec_or, BitVec.toNat_or, hs, hd2]
    exact Nat.or_lt_two_pow (by omega) (by omega)
  rw [BitVec.toInt_eq_toNat_cond, if_pos (by omega)]
  omega
theorem s_intOf {v n b : Nat} (hS : HS g l B h σ) (hW : Wh σ v n) (hb : b ≤ 2147483646) {L : Nat → Int32} {J : Nat → Int64} (h1 : L 1 = nI v) (h2 : L 2 = nI b) : Tm (fun k => x_intOf k 0 L J σ) (fun r => r.2 = σ ∧ ∃ y, y ≤ b + 1 ∧ (r.1 = nI y ∨ r.1 = - nI y) ∧ (0 ≤ σ.2.2 28 (v + 4) → r.1 = nI y)) := by
  obtain ⟨w1, w2, w3, w4, w5⟩ := hW
  have wb : (nI b).toInt64.toInt = b := w_int (by omega)
  have l6 : ∀ (N : Nat → Int32) (K : Nat → Int64) (y : Nat), y ≤ b + 1 → N 1 = nI v → N 100 = nI y → Tm (fun k => x_intOf k 6 N K σ) (fun r => r.2 = σ ∧ ∃ y, y ≤ b + 1 ∧ (r.1 = nI y ∨ r.1 = - nI y) ∧ (0 ≤ σ.2.2 28 (v + 4) → r.1 = nI y)) := fun N K y hy n1 n100 => by
    refine Tm_suc (fun k => by rw [x_intOf]) ?_
    refine Tm_ob (s_signOf hS (m := v) (by omega) (by exact n1)) (fun r hr => ?_)
    rw [hr]
    refine Tm_ite (fun _ => ?_) (fun z => ?_)
    · refine Tm_suc (fun k => by rw [x_intOf]) ?_
      refine Tm_suc (fun k => by rw [x_intOf]) ?_
      exact Tm_some ⟨rfl, y, hy, Or.inl n100, fun _ => n100⟩
    · refine Tm_suc (fun k => by rw [x_intOf]) ?_
      refine Tm_some ⟨rfl, y, hy, Or.inr ?_, fun w => absurd w z⟩
      show - N 100 = _
      rw [n100]
  have l1 : ∀ (i : Nat) (N : Nat → Int32) (K : Nat → Int64), i + 1 ≤ n → N 1 = nI v → N 2 = nI b → N 6 = nI i - 1 → 0 ≤ (K 4).toInt → Tm (fun k => x_intOf k 1 N K σ) (fun r => r.2 = σ ∧ ∃ y, y ≤ b + 1 ∧ (r.1 = nI y ∨ r.1 = - nI y) ∧ (0 ≤ σ.2.2 28 (v + 4) → r.1 = nI y)) := by
    intro i
    induction i with
    | zero =>
      intro N K hi n1 n2 n6 hK
      refine Tm_suc (fun k => by rw [x_intOf]) ?_
      rw [n6]
      refine Tm_ite (fun _ => ?_) (fun z => absurd (show nI 0 - 1 < 0 by decide) z)
      refine Tm_suc (fun k => by rw [x_intOf]) ?_
      rw [n2]
      refine Tm_ite (fun c => ?_) (fun _ => ?_)
      · have c := w_cmp.mp c
        rw [wb] at c
        refine Tm_suc (fun k => by rw [x_intOf]) ?_
        refine l6 _ K (K 4).toInt.toNat (by omega) n1 ?_
        show (K 4).toInt32 = _
        rw [i_eq, Int64.toInt_toInt32, n_int (by omega)]
        rw [Int.bmod_eq_of_le (by omega) (by omega)]
        omega
      · refine l6 _ K (b + 1) (Nat.le_refl _) n1 ?_
        show nI b + 1 = _
        rw [n_add1]
    | succ i ih =>
      intro N K hi n1 n2 n6 hK
      rw [show nI (i + 1) - 1 = nI i from n_sub (p := i + 1) (q := 1) (by omega) (by omega)] at n6
      have nx : ∀ (K' : Nat → Int64), 0 ≤ (K' 100).toInt → Tm (fun k => x_intOf k 3 N K' σ) (fun r => r.2 = σ ∧ ∃ y, y ≤ b + 1 ∧ (r.1 = nI y ∨ r.1 = - nI y) ∧ (0 ≤ σ.2.2 28 (v + 4) → r.1 = nI y)) := fun K' hK' => by
        refine Tm_suc (fun k => by rw [x_intOf]) ?_
        rw [n6]
        exact ih _ _ (by omega) n1 n2 (by show nI i + (-1) = nI i - 1; exact (Int32.sub_eq_add_neg _ _).symm) hK'
      refine Tm_suc (fun k => by rw [x_intOf]) ?_
      rw [n6, n2]
      refine Tm_ite (fun z => absurd z ?_) (fun _ => ?_)
      · intro z
        have := (n_lt (q := 0) (by omega) (by decide)).mp z
        omega
      refine Tm_ite (fun c => ?_) (fun _ => nx _ hK)
      have c := w_cmp.mp c
      rw [wb] at c
      refine Tm_suc (fun k => by rw [x_intOf]) ?_
      rw [n6, n1, show nI v + 5 = nI (v + 5) from n_add (q := 5) (by omega), n_add (by omega)]
      refine Tm_chk (n_in (by omega) (by omega)) ?_
      rw [n_cl (p := v + 5 + i) (by omega)]
      obtain ⟨d, d1, d2⟩ := w5.1 i (by omega)
      rw [d2]
      exact nx _ (w_more hK (by omega) d1)
  refine Tm_suc (fun k => by rw [x_intOf]) ?_
  rw [h1, n_add1]
  refine Tm_chk (n_in (by omega) (by omega)) ?_
  rw [n_cl (p := v + 1) (by omega), w1, show nI n - 1 = nI (n - 1) from n_sub (q := 1) (by omega) w2]
  exact l1 (n - 1) _ _ (by omega) h1 h2 rfl (Int.le_refl 0)
/-- while a power is worked: the heap stays, an error may come -/
def RQ (g : Nat → Prop) (l : List Nat) (B h t : Nat) (σ τ : MS) : Prop := VP g l B h t τ ∧ τ.2.2 28 = σ.2.2 28 ∧ FW t σ τ ∧ (¬ σ.1 56 = 0 → ¬ τ.1 56 = 0) ∧ (τ.1 56 = 0 → NF σ τ)
theorem RQ_rf (hP : VP g l B h t σ) : RQ g l B h t σ σ := ⟨hP, rfl, FW_rf, fun z => z, fun _ => NF_rf⟩
theorem RQ_NF {τ υ : MS} (h1 : RQ g l B h t σ τ) (h2 : NF τ υ) : RQ g l B h t σ υ := by
  obtain ⟨a, b, c, d, e⟩ := h1
  refine ⟨NF_VP h2 a, (h2.2 28 (by decide)).trans b, FW_tr c (NF_FW h2), fun z => ?_, fun z => ?_⟩
  · rw [h2.1 56 (by decide)]; exact d z
  · rw [h2.1 56 (by decide)] at z; exact NF_tr (e z) h2
theorem RQ_er {τ : MS} {e : Nat} (h1 : RQ g l B h t σ τ) (he : e ≤ 11) (he0 : ¬ nI e = 0) : RQ g l B h t σ (mEr τ (nI e)) := by
  obtain ⟨a, b, c, d, f⟩ := h1
  exact ⟨⟨HS_er a.1 _, (mEr_s (by decide)).trans a.2.1, a.2.2.1, ErB_er a.2.2.2 he⟩, b, FW_tr c FW_er, fun _ => mEr_e he0, fun z => absurd z (mEr_e he0)⟩
/-- powers -/
theorem s_raise (hP : VP g l B h t σ) {a b n m : Nat} (ha : a < 3 ∨ g a) (hA : Wh σ a n) (hB : Wh σ b m) {L : Nat → Int32} (h1 : L 1 = nI a) (h2 : L 2 = nI b) : Tm (fun k => x_raise k 0 L σ) (VO g B h t σ) := by
  have hA0 := hA
  have hB0 := hB
  obtain ⟨a1, a2, a3, a4, a5⟩ := hA
  obtain ⟨b1, b2, b3, b4, b5⟩ := hB
  refine Tm_suc (fun k => by rw [x_raise]) ?_
  refine Tm_ob (s_signOf hP.1 (m := b) (by omega) (by exact h2)) (fun r0 hr0 => ?_)
  rw [hr0]
  refine Tm_ite (fun _ => ?_) (fun _ => ?_)
  case refine_2 =>
    refine Tm_ob (s_fail _ σ) (fun r hr => ?_)
    rw [hr]
    exact Tm_some (VO_er hP (e := 4) (by decide))
  refine Tm_suc (fun k => by rw [x_raise]) ?_
  refine Tm_ob (s_intOf hP.1 hB0 (b := 5000) (by decide) (by exact h2) rfl) (fun r1 hr1 => ?_)
  obtain ⟨hr1, y, hy, _⟩ := hr1
  rw [hr1]
  refine Tm_ite (fun _ => Tm_ob (s_small hP _) (fun r hr => Tm_some hr)) (fun _ => ?_)
  -- the product, again and again
  have l23 : ∀ (N : Nat → Int32) (τ : MS) (c : Nat), N 1 = nI a → c ≤ 64 → NF σ τ → τ.1 86 = nI c → LM (τ.2.2 44) c → Tm (fun k => x_raise k 23 N τ) (VO g B h t σ) := fun N τ c n1 hc hF t86 hLM => by
    have l25 : ∀ N : Nat → Int32, (N 100 = 1 ∨ N 100 = -1) → Tm (fun k => x_raise k 25 N τ) (VO g B h t σ) := fun N n100 => by
      refine Tm_suc (fun k => by rw [x_raise]) ?_
      exact VO_NF_Tm hF hP (Tm_ob (s_wholeOf (NF_VP hF hP) (by omega) t86 hLM _ (Or.inl n100)) (fun r hr => Tm_some hr))
    have l24 : ∀ N : Nat → Int32, Tm (fun k => x_raise k 24 N τ) (VO g B h t σ) := fun N => by
      refine Tm_suc (fun k => by rw [x_raise]) ?_
      exact l25 _ (Or.inl rfl)
    refine Tm_suc (fun k => by rw [x_raise]) ?_
    refine Tm_ob (s_signOf (NF_HS hF hP.1) (m := a) (by omega) (by exact n1)) (fun r hr => ?_)
    rw [hr]
    refine Tm_ite (fun _ => l24 _) (fun _ => ?_)
    exact Tm_ite (fun _ => l24 _) (fun _ => l25 _ (Or.inr rfl))
  have l21 : ∀ (c j i : Nat) (N : Nat → Int32) (τ : MS), c ≤ 64 → j + i = c → N 1 = nI a → N 5 = nI c → N 6 = nI i → NF σ τ → τ.1 86 = nI c → LM (τ.2.2 47) c → LM (τ.2.2 44) i → Tm (fun k => x_raise k 21 N τ) (VO g B h t σ) := by
    intro c j
    induction j with
    | zero =>
      intro i N τ hc hi n1 n5 n6 hF t86 tR hLM
      refine Tm_suc (fun k => by rw [x_raise]) ?_
      rw [n5, n6]
      exact Tm_ite (fun _ => l23 N τ c n1 hc hF t86 (LM_mo hLM (by omega))) (fun q => absurd ((n_le (by omega) (by omega)).mpr (by omega)) q)
    | succ j ih =>
      intro i N τ hc hi n1 n5 n6 hF t86 tR hLM
      refine Tm_suc (fun k => by rw [x_raise]) ?_
      rw [n5, n6]
      refine Tm_ite (fun q => absurd ((n_le (by omega) (by omega)).mp q) (by omega)) (fun _ => ?_)
      refine Tm_chk (n_in (by omega) (by omega)) ?_
      refine Tm_chk (n_in (by omega) (by omega)) ?_
      rw [n_cl (p := i) (by omega)]
      show Tm (fun k => x_raise k 22 N (mAr τ 44 i (τ.2.2 47 i))) _
      refine Tm_suc (fun k => by rw [x_raise]) ?_
      exact ih (i + 1) _ _ hc (by omega) n1 n5 (by show N 6 + 1 = _; rw [n6, n_add1]) (NF_tr hF (NF_ar (by decide))) t86 (by rw [mAr_o (by decide)]; exact tR) (by rw [mAr_s]; exact LM_suc hLM (tR i (by omega)))
  -- after the loop
  have hE : ∀ τ : MS, ErB τ → τ.1 56 ≤ 0 → τ.1 56 = 0 := fun τ ⟨e, e1, e2⟩ w => by
    rw [e1] at w ⊢
    rw [(n_le0 (by omega)).mp w]; rfl
  have l18 : ∀ (c : Nat) (N : Nat → Int32) (τ : MS), (τ.1 56 = 0 → c ≤ 64) → N 1 = nI a → N 5 = nI c → RQ g l B h t σ τ → LM (τ.2.2 47) c → Tm (fun k => x_raise k 18 N τ) (VO g B h t σ) := by
    intro c N τ hc n1 n5 hQ tR
    obtain ⟨hPt, h28, hFW, he, hNF⟩ := hQ
    refine Tm_suc (fun k => by rw [x_raise]) ?_
    refine Tm_ite (fun w => ?_) (fun w => ?_)
    · have w0 := hE τ hPt.2.2.2 w
      refine Tm_suc (fun k => by rw [x_raise]) ?_
      rw [n5]
      show Tm (fun k => x_raise k 20 N (mSc τ 86 (nI c))) _
      refine Tm_suc (fun k => by rw [x_raise]) ?_
      exact l21 c c 0 _ _ (hc w0) (by omega) n1 n5 rfl (NF_tr (hNF w0) (NF_sc (by decide))) rfl tR (fun i hi => absurd hi (Nat.not_lt_zero i))
    · exact Tm_some ⟨g, l, h, ⟨hPt.1, fun _ z => z, Nat.le_refl _, fun i _ _ => by rw [h28]⟩, hFW, hPt.2.1, hPt.2.2.2, he, Vd_0⟩
  have l13 : ∀ (j i c : Nat) (N : Nat → Int32) (τ : MS), (N 3).toInt ≤ i + j → i + j < 2147483648 → (τ.1 56 = 0 → c ≤ 64) → N 1 = nI a → N 5 = nI c → N 6 = nI i → RQ g l B h t σ τ → τ.1 84 = nI (n - 1) → LM (τ.2.2 42) (n - 1) → LM (τ.2.2 47) c → Tm (fun k => x_raise k 13 N τ) (VO g B h t σ) := by
    intro j
    induction j with
    | zero =>
      intro i c N τ hj hj2 hc n1 n5 n6 hQ t84 tA tR
      refine Tm_suc (fun k => by rw [x_raise]) ?_
      rw [n6]
      refine Tm_ite (fun _ => l18 c N τ hc n1 n5 hQ tR) (fun q => absurd (i_le.mpr ?_) q)
      rw [n_int (by omega)]; omega
    | succ j ih =>
      intro i c N τ hj hj2 hc n1 n5 n6 hQ t84 tA tR
      refine Tm_suc (fun k => by rw [x_raise]) ?_
      refine Tm_ite (fun _ => l18 c N τ hc n1 n5 hQ tR) (fun _ => ?_)
      refine Tm_ite (fun w0 => ?_) (fun _ => l18 c N τ hc n1 n5 hQ tR)
      have hc64 := hc w0
      rw [n5]
      refine Tm_ob (s_rowsTimes (p := c) (n := n - 1) (by omega) (by omega) t84 tA tR rfl) (fun r3 hr3 => ?_)
      obtain ⟨hF3, q42, q84, c', hc', q86, qC⟩ := hr3
      have hQ3 : RQ g l B h t σ r3.2 := RQ_NF hQ hF3
      -- what was made goes back
      have l15 : ∀ (q e : Nat) (N : Nat → Int32) (υ : MS), q + e = c' → (N 3).toInt ≤ i + (j + 1) → (υ.1 56 = 0 → c' ≤ 64) → N 1 = nI a → N 5 = nI c' → N 6 = nI i → N 7 = nI e → RQ g l B h t σ υ → υ.1 84 = nI (n - 1) → υ.1 86 = nI c' → LM (υ.2.2 42) (n - 1) → LM (υ.2.2 44) c' → LM (υ.2.2 47) e → Tm (fun k => x_raise k 15 N υ) (VO g B h t σ) := by
        intro q
        induction q with
        | zero =>
          intro e N υ he hN3 hcc n1 n5 n6 n7 hQu u84 u86 uA uC uR
          refine Tm_suc (fun k => by rw [x_raise]) ?_
          rw [u86, n7]
          refine Tm_ite (fun _ => ?_) (fun q => absurd ((n_le (by omega) (by omega)).mpr (by omega)) q)
          refine Tm_suc (fun k => by rw [x_raise]) ?_
          exact ih (i + 1) c' _ υ (by show (N 3).toInt ≤ ((i + 1 : Nat) : Int) + j; omega) (by omega) hcc n1 n5 (by show N 6 + 1 = _; rw [n6, n_add1]) hQu u84 uA (LM_mo uR (by omega))
        | succ q ihq =>
          intro e N υ he hN3 hcc n1 n5 n6 n7 hQu u84 u86 uA uC uR
          refine Tm_suc (fun k => by rw [x_raise]) ?_
          rw [u86, n7]
          refine Tm_ite (fun q => absurd ((n_le (by omega) (by omega)).mp q) (by omega)) (fun _ => ?_)
          refine Tm_chk (n_in (by omega) (by omega)) ?_
          refine Tm_chk (n_in (by omega) (by omega)) ?_
          rw [n_cl (p := e) (by omega)]
          show Tm (fun k => x_raise k 16 N (mAr υ 47 e (υ.2.2 44 e))) _
          refine Tm_suc (fun k => by rw [x_raise]) ?_
          exact ihq (e + 1) _ _ (by omega) hN3 hcc n1 n5 n6 (by show N 7 + 1 = _; rw [n7, n_add1]) (RQ_NF hQu (NF_ar (by decide))) u84 u86 (by rw [mAr_o (by decide)]; exact uA) (by rw [mAr_o (by decide)]; exact uC) (by rw [mAr_s]; exact LM_suc uR (uC e (by omega)))
      have l14 : ∀ υ : MS, (υ.1 56 = 0 → c' ≤ 64) → RQ g l B h t σ υ → υ.1 84 = nI (n - 1) → υ.1 86 = nI c' → LM (υ.2.2 42) (n - 1) → LM (υ.2.2 44) c' → Tm (fun k => x_raise k 14 N υ) (VO g B h t σ) := fun υ hcc hQu u84 u86 uA uC => by
        refine Tm_suc (fun k => by rw [x_raise]) ?_
        rw [u86]
        exact l15 c' 0 _ υ (by omega) hj hcc n1 rfl n6 rfl hQu u84 u86 uA uC (fun i hi => absurd hi (Nat.not_lt_zero i))
      have sA3 : LM (r3.2.2.2 42) (n - 1) := by rw [q42]; exact tA
      rw [q86]
      refine Tm_ite (fun w => ?_) (fun w => ?_)
      · have w := (n_le (q := 64) (by omega) (by decide)).mp w
        exact l14 r3.2 (fun _ => w) hQ3 q84 q86 sA3 qC
      · refine Tm_ob (s_fail _ r3.2) (fun r5 hr5 => ?_)
        rw [hr5]
        show Tm (fun k => x_raise k 14 N (mEr r3.2 5)) _
        exact l14 (mEr r3.2 5) (fun z => absurd z (mEr_e (by decide))) (RQ_er hQ3 (e := 5) (by decide) (by decide)) ((mEr_s (by decide)).trans q84) ((mEr_s (by decide)).trans q86) sA3 qC
  -- the first factor
  have l9 : ∀ N : Nat → Int32, N 1 = nI a → (N 3).toInt ≤ 2147483647 → Tm (fun k => x_raise k 9 N σ) (VO g B h t σ) := fun N n1 n3 => by
    refine Tm_suc (fun k => by rw [x_raise]) ?_
    refine Tm_ob (s_loadA hP.1 a1 a2 a3 a4 a5 (by exact n1)) (fun r hr => ?_)
    obtain ⟨hF1, p84, pA, _, _⟩ := hr
    rw [p84]
    have l10 : ∀ (j i : Nat) (M : Nat → Int32) (τ : MS), j + i = n - 1 → M 1 = nI a → (M 3).toInt ≤ 2147483647 → M 5 = nI (n - 1) → M 6 = nI i → NF σ τ → τ.1 84 = nI (n - 1) → LM (τ.2.2 42) (n - 1) → LM (τ.2.2 47) i → Tm (fun k => x_raise k 10 M τ) (VO g B h t σ) := by
      intro j
      induction j with
      | zero =>
        intro i M τ hi m1 m3 m5 m6 hF t84 tA tR
        refine Tm_suc (fun k => by rw [x_raise]) ?_
        rw [t84, m6]
        refine Tm_ite (fun _ => ?_) (fun q => absurd ((n_le (by omega) (by omega)).mpr (by omega)) q)
        refine Tm_suc (fun k => by rw [x_raise]) ?_
        exact l13 2147483646 1 (n - 1) _ τ (by show (M 3).toInt ≤ _; omega) (by decide) (fun _ => by omega) m1 m5 rfl (RQ_NF (RQ_rf hP) hF) t84 tA (LM_mo tR (by omega))
      | succ j ih =>
        intro i M τ hi m1 m3 m5 m6 hF t84 tA tR
        refine Tm_suc (fun k => by rw [x_raise]) ?_
        rw [t84, m6]
        refine Tm_ite (fun q => absurd ((n_le (by omega) (by omega)).mp q) (by omega)) (fun _ => ?_)
        refine Tm_chk (n_in (by omega) (by omega)) ?_
        refine Tm_chk (n_in (by omega) (by omega)) ?_
        rw [n_cl (p := i) (by omega)]
        show Tm (fun k => x_raise k 11 M (mAr τ 47 i (τ.2.2 42 i))) _
        refine Tm_suc (fun k => by rw [x_raise]) ?_
        exact ih (i + 1) _ _ (by omega) m1 m3 m5 (by show M 6 + 1 = _; rw [m6, n_add1]) (NF_tr hF (NF_ar (by decide))) t84 (by rw [mAr_o (by decide)]; exact tA) (by rw [mAr_s]; exact LM_suc tR (tA i (by omega)))
    exact l10 (n - 1) 0 _ _ (by omega) n1 n3 rfl rfl hF1 p84 pA (fun i hi => absurd hi (Nat.not_lt_zero i))
  have bd3 : ∀ x : Int32, x.toInt ≤ 2147483647 := fun x => (i_bd x).2
  have l5 : ∀ N : Nat → Int32, N 1 = nI a → Tm (fun k => x_raise k 5 N σ) (VO g B h t σ) := fun N n1 => by
    have l6 : Tm (fun k => x_raise k 6 N σ) (VO g B h t σ) := by
      refine Tm_suc (fun k => by rw [x_raise]) ?_
      refine Tm_suc (fun k => by rw [x_raise]) ?_
      exact Tm_some (VO_id hP ⟨a, n1, ha⟩)
    refine Tm_suc (fun k => by rw [x_raise]) ?_
    refine Tm_ob (s_signOf hP.1 (m := a) (by omega) (by exact n1)) (fun r hr => ?_)
    rw [hr]
    refine Tm_ite (fun _ => l6) (fun _ => ?_)
    refine Tm_ite (fun _ => ?_) (fun _ => l6)
    refine Tm_suc (fun k => by rw [x_raise]) ?_
    refine Tm_ob (s_small hP _) (fun r hr => ?_)
    refine Tm_suc (fun k => by rw [x_raise]) ?_
    exact Tm_some hr
  have l4 : ∀ N : Nat → Int32, N 1 = nI a → Tm (fun k => x_raise k 4 N σ) (VO g B h t σ) := fun N n1 => by
    refine Tm_suc (fun k => by rw [x_raise]) ?_
    rw [n1, n_add1]
    refine Tm_chk (n_in (by omega) (by omega)) ?_
    refine Tm_ite (fun _ => l5 _ n1) (fun _ => ?_)
    refine Tm_chk (n_in (by omega) (by omega)) ?_
    refine Tm_ite (fun w => ?_) (fun _ => l9 _ n1 (bd3 _))
    rw [n_cl (p := a + 1) (by omega), a1] at w
    have w := (n_eq (q := 2) (by omega) (by decide)).mp w
    rw [show nI a + 5 = nI (a + 5) from n_add (q := 5) (by omega)]
    refine Tm_chk (n_in (by omega) (by omega)) ?_
    exact Tm_ite (fun _ => l5 _ n1) (fun _ => l9 _ n1 (bd3 _))
  refine Tm_suc (fun k => by rw [x_raise]) ?_
  show Tm (fun k => if ¬ (L 2 + 1 < 0 ∨ 1740000 ≤ (L 2 + 1).toNatClampNeg) then (if σ.2.2 28 (L 2 + 1).toNatClampNeg ≤ 1 then x_raise k 3 (upd L 3 r1.1) σ else (if ¬ (L 2 + 5 < 0 ∨ 1740000 ≤ (L 2 + 5).toNatClampNeg) then (if σ.2.2 28 (L 2 + 5).toNatClampNeg &&& 1 = 1 then x_raise k 4 (upd (upd L 3 r1.1) 100 1) σ else x_raise k 3 (upd L 3 r1.1) σ) else none)) else none) _
  rw [h2, n_add1]
  refine Tm_chk (n_in (by omega) (by omega)) ?_
  rw [n_cl (p := b + 1) (by omega), b1]
  have l3 : ∀ N : Nat → Int32, N 1 = nI a → Tm (fun k => x_raise k 3 N σ) (VO g B h t σ) := fun N n1 => by
    refine Tm_suc (fun k => by rw [x_raise]) ?_
    exact l4 _ n1
  refine Tm_ite (fun _ => l3 _ h1) (fun w => ?_)
  have w : ¬ m ≤ 1 := fun z => w ((n_le (q := 1) (by omega) (by decide)).mpr z)
  rw [show nI b + 5 = nI (b + 5) from n_add (q := 5) (by omega)]
  refine Tm_chk (n_in (by omega) (by omega)) ?_
  exact Tm_ite (fun _ => l4 _ h1) (fun _ => l3 _ h1)
end INO
end JnS103
section JnS104
/-! What rows of limbs are worth. -/
def dg (f : Nat → Int32) (i : Nat) : Nat := (f i).toNatClampNeg
def vl (f : Nat → Int32) : Nat → Nat
  | 0 => 0
  | n + 1 => vl f n + dg f n * 65536 ^ n
theorem LM_dg {f : Nat → Int32} {n i : Nat} (h : LM f n) (hi : i < n) : f i = nI (dg f i) ∧ dg f i ≤ 65535 := by
  obtain ⟨d, d1, d2⟩ := h i hi
  unfold dg
  rw [d2, n_cl (by omega)]
  exact ⟨rfl, d1⟩
theorem dg_nI {f : Nat → Int32} {i d : Nat} (h : f i = nI d) (hd : d < 2147483648) : dg f i = d := by
  unfold dg; rw [h, n_cl hd]
theorem vl_lt {f : Nat → Int32} : ∀ n : Nat, LM f n → vl f n < 65536 ^ n
  | 0, _ => Nat.zero_lt_one
  | n + 1, h => by
    have ih := vl_lt n (LM_mo h (by omega))
    have hd := (LM_dg h (Nat.lt_succ_self n)).2
    show vl f n + dg f n * 65536 ^ n < 65536 ^ (n + 1)
    rw [Nat.pow_succ]
    have h1 : dg f n * 65536 ^ n ≤ 65535 * 65536 ^ n := Nat.mul_le_mul_right _ hd
    have h2 : 65536 ^ n * 65536 = 65536 * 65536 ^ n := Nat.mul_comm _ _
    omega
theorem vl_ext {f f' : Nat → Int32} : ∀ n : Nat, (∀ i, i < n → f' i = f i) → vl f' n = vl f n
  | 0, _ => rfl
  | n + 1, h => by
    show vl f' n + dg f' n * 65536 ^ n = vl f n + dg f n * 65536 ^ n
    rw [vl_ext n (fun i hi => h i (by omega))]
    unfold dg
    rw [h n (by omega)]
theorem vl_upd {f : Nat → Int32} {n i : Nat} {x : Int32} (h : n ≤ i) : vl (upd f i x) n = vl f n := vl_ext n (fun j hj => upd_other (by omega))
theorem pow_pos16 (n : Nat) : 1 ≤ 65536 ^ n := Nat.pow_pos (by decide)
theorem pow16 (n : Nat) : 65536 ^ n = 2 ^ (16 * n) := by rw [Nat.pow_mul]
/-- how many limbs a row has that is below a power of two -/
theorem vl_len {f : Nat → Int32} {n j : Nat} (h : n = 0 ∨ 65536 ^ (n - 1) ≤ vl f n) (hj : vl f n < 2 ^ j) : 16 * n ≤ j + 15 := by
  rcases h with h | h
  · omega
  · have h1 : 65536 ^ (n - 1) < 2 ^ j := Nat.lt_of_le_of_lt h hj
    rw [pow16] at h1
    have := (Nat.pow_lt_pow_iff_right (a := 2) (by decide)).mp h1
    omega
/-- the top limb -/
theorem vl_top {f : Nat → Int32} {n : Nat} (h : LM f (n + 1)) : 65536 ^ n ≤ vl f (n + 1) ↔ ¬ f n = 0 := by
  have h1 := vl_lt n (LM_mo h (by omega))
  obtain ⟨e, e2⟩ := LM_dg h (Nat.lt_succ_self n)
  have h2 : vl f (n + 1) = vl f n + dg f n * 65536 ^ n := rfl
  constructor
  · intro z hz
    rw [e, n_eq0 (by omega)] at hz
    rw [h2, hz, Nat.zero_mul] at z
    omega
  · intro z
    have hd : 1 ≤ dg f n := by
      by_cases w : dg f n = 0
      · exact absurd (by rw [e, w]; rfl) z
      · omega
    have := Nat.mul_le_mul_right (65536 ^ n) hd
    rw [h2]; omega
theorem n_shl1 {d c : Nat} (hd : d ≤ 65535) (hc : c ≤ 1) : (nI d <<< ((1 : Int32) &&& 31)) ||| nI c = nI (2 * d + c) := by
  refine Int32.toBitVec_inj.mp ?_
  show (nI d).toBitVec <<< (((1 : Int32) &&& 31).toBitVec.smod 32) ||| (nI c).toBitVec = (nI (2 * d + c)).toBitVec
  apply BitVec.eq_of_toNat_eq
  have e : (((1 : Int32) &&& 31).toBitVec.smod 32) = 1#32 := by decide
  rw [e, BitVec.toNat_or, BitVec.shiftLeft_eq', BitVec.toNat_shiftLeft]
  show ((Int32.ofNat d).toBitVec.toNat <<< 1 % 2 ^ 32) ||| (Int32.ofNat c).toBitVec.toNat = (Int32.ofNat (2 * d + c)).toBitVec.toNat
  rw [Int32.toBitVec_ofNat', Int32.toBitVec_ofNat', Int32.toBitVec_ofNat']
  simp only [BitVec.toNat_ofNat]
  rw [Nat.mod_eq_of_lt (a := d) (by omega), Nat.mod_eq_of_lt (a := c) (by omega), Nat.mod_eq_of_lt (a := 2 * d + c) (by omega), Nat.shiftLeft_eq]
  rw [Nat.mod_eq_of_lt (by omega)]
  rcases Nat.lt_or_ge c 1 with h | h
  · have : c = 0 := by omega
    subst this
    simp [Nat.mul_comm]
  · have : c = 1 := by omega
    subst this
    have h2 : d * 2 ^ 1 = 2 * d := by omega
    rw [h2]
    exact (Nat.two_pow_add_eq_or_of_lt (i := 1) (b := 1) (by decide) d).symm
theorem n_and (m : Nat) (hm : m < 2147483648) : nI m &&& 65535 = nI (m % 65536) := by
  refine Int32.toBitVec_inj.mp ?_
  apply BitVec.eq_of_toNat_eq
  show (nI m &&& 65535).toBitVec.toNat = (nI (m % 65536)).toBitVec.toNat
  rw [Int32.toBitVec_and, BitVec.toNat_and]
  show (Int32.ofNat m).toBitVec.toNat &&& 65535 = (Int32.ofNat (m % 65536)).toBitVec.toNat
  rw [Int32.toBitVec_ofNat', Int32.toBitVec_ofNat']
  simp only [BitVec.toNat_ofNat]
  rw [Nat.mod_eq_of_lt (a := m) (by omega), Nat.mod_eq_of_lt (a := m % 65536) (by omega)]
  exact Nat.and_two_pow_sub_one_eq_mod m 16
theorem n_shr (m : Nat) (hm : m < 2147483648) : nI m >>> ((16 : Int32) &&& 31) = nI (m / 65536) := by
  rw [i_eq, i_shr16, n_int hm, n_int (by omega)]
  omega
/-- two rows are compared: what it says -/
theorem s_cmpR46v {σ : MS} {n m : Nat} (hn : n ≤ 139) (hm : m ≤ 139) (hR : LM (σ.2.2 46) n) (hB : LM (σ.2.2 43) m) (hz : n = 0 ∨ 65536 ^ (n - 1) ≤ vl (σ.2.2 46) n) {L : Nat → Int32} (h1 : L 1 = nI n) (h3 : L 3 = nI m) : Tm (fun k => x_compareRows__46__43 k 0 L σ) (fun r => r.2 = σ ∧ (r.1 < 0 ∨ vl (σ.2.2 43) m ≤ vl (σ.2.2 46) n)) := by
  have l2 : ∀ N : Nat → Int32, (N 4 < 0 ∨ vl (σ.2.2 43) m ≤ vl (σ.2.2 46) n) → Tm (fun k => x_compareRows__46__43 k 2 N σ) (fun r => r.2 = σ ∧ (r.1 < 0 ∨ vl (σ.2.2 43) m ≤ vl (σ.2.2 46) n)) := fun N hN => by
    refine Tm_suc (fun k => by rw [x_compareRows__46__43]) ?_
    exact Tm_some ⟨rfl, hN⟩
  -- rows of one length: those above i are worth the same
  have l1 : n = m → ∀ (i : Nat) (N : Nat → Int32), i ≤ n → N 5 = nI i - 1 → (N 4 = 0 → vl (σ.2.2 46) n + vl (σ.2.2 43) i = vl (σ.2.2 43) m + vl (σ.2.2 46) i) → (¬ N 4 = 0 → N 4 < 0 ∨ vl (σ.2.2 43) m ≤ vl (σ.2.2 46) n) → Tm (fun k => x_compareRows__46__43 k 1 N σ) (fun r => r.2 = σ ∧ (r.1 < 0 ∨ vl (σ.2.2 43) m ≤ vl (σ.2.2 46) n)) := by
    intro hnm i
    induction i with
    | zero =>
      intro N hi n5 he hne
      refine Tm_suc (fun k => by rw [x_compareRows__46__43]) ?_
      rw [n5]
      refine Tm_ite (fun _ => l2 N ?_) (fun z => absurd (show nI 0 - 1 < 0 by decide) z)
      by_cases z : N 4 = 0
      · have := he z
        have h0 : vl (σ.2.2 43) 0 = 0 := rfl
        have h0' : vl (σ.2.2 46) 0 = 0 := rfl
        exact Or.inr (by omega)
      · exact hne z
    | succ i ih =>
      intro N hi n5 he hne
      rw [show nI (i + 1) - 1 = nI i from n_sub (p := i + 1) (q := 1) (by omega) (by omega)] at n5
      refine Tm_suc (fun k => by rw [x_compareRows__46__43]) ?_
      rw [n5]
      refine Tm_ite (fun z => absurd ((n_lt (q := 0) (by omega) (by decide)).mp z) (by omega)) (fun _ => ?_)
      refine Tm_ite (fun z => ?_) (fun z => l2 N (hne z))
      refine Tm_chk (n_in (by omega) (by omega)) ?_
      refine Tm_chk (n_in (by omega) (by omega)) ?_
      rw [n_cl (p := i) (by omega)]
      obtain ⟨r1, r2⟩ := LM_dg hR (i := i) (by omega)
      obtain ⟨b1, b2⟩ := LM_dg hB (i := i) (by omega)
      have he := he z
      have v1 : vl (σ.2.2 46) (i + 1) = vl (σ.2.2 46) i + dg (σ.2.2 46) i * 65536 ^ i := rfl
      have v2 : vl (σ.2.2 43) (i + 1) = vl (σ.2.2 43) i + dg (σ.2.2 43) i * 65536 ^ i := rfl
      have l1 := vl_lt i (LM_mo hR (by omega))
      have l2' := vl_lt i (LM_mo hB (by omega))
      refine ih _ (by omega) (by show nI i + (-1) = nI i - 1; exact (Int32.sub_eq_add_neg _ _).symm) (fun w => ?_) (fun w => ?_)
      · have w : σ.2.2 46 i - σ.2.2 43 i = 0 := w
        rw [r1, b1, n_sub0 (by omega) (by omega)] at w
        rw [v1, v2, w] at he
        omega
      · have w : ¬ σ.2.2 46 i - σ.2.2 43 i = 0 := w
        show σ.2.2 46 i - σ.2.2 43 i < 0 ∨ _
        rw [r1, b1] at w ⊢
        rw [n_sub0 (by omega) (by omega)] at w
        have e : (nI (dg (σ.2.2 46) i) - nI (dg (σ.2.2 43) i)).toInt = (dg (σ.2.2 46) i : Int) - dg (σ.2.2 43) i := by
          rw [i_sub (by rw [n_int (by omega), n_int (by omega)]; omega) (by rw [n_int (by omega), n_int (by omega)]; omega), n_int (by omega), n_int (by omega)]
        by_cases q : dg (σ.2.2 46) i < dg (σ.2.2 43) i
        · left
          rw [i_lt, e]
          show _ < (0 : Int)
          omega
        · right
          have q1 : dg (σ.2.2 43) i + 1 ≤ dg (σ.2.2 46) i := by omega
          have q2 := Nat.mul_le_mul_right (65536 ^ i) q1
          rw [Nat.add_mul, Nat.one_mul] at q2
          rw [v1, v2] at he
          omega
  refine Tm_suc (fun k => by rw [x_compareRows__46__43]) ?_
  rw [h1, h3]
  by_cases hnm : n = m
  · refine l1 hnm n _ (Nat.le_refl _) rfl (fun _ => ?_) (fun w => absurd ?_ w)
    · rw [hnm]; omega
    · show nI n - nI m = 0
      rw [hnm, n_sub0 (by omega) (by omega)]
  · have e : (nI n - nI m).toInt = (n : Int) - m := by
      rw [i_sub (by rw [n_int (by omega), n_int (by omega)]; omega) (by rw [n_int (by omega), n_int (by omega)]; omega), n_int (by omega), n_int (by omega)]
    have fin : nI n - nI m < 0 ∨ vl (σ.2.2 43) m ≤ vl (σ.2.2 46) n := by
      by_cases q : n < m
      · left
        rw [i_lt, e]
        show _ < (0 : Int)
        omega
      · right
        have hb := vl_lt m hB
        have hp : 65536 ^ m ≤ 65536 ^ (n - 1) := Nat.pow_le_pow_right (by decide) (by omega)
        rcases hz with hz | hz <;> omega
    refine Tm_suc (fun k => by rw [x_compareRows__46__43]) ?_
    refine Tm_ite (fun _ => l2 _ fin) (fun _ => ?_)
    refine Tm_ite (fun w => absurd ?_ hnm) (fun _ => l2 _ fin)
    have w : nI n - nI m = 0 := w
    exact (n_sub0 (by omega) (by omega)).mp w
end JnS104
section JnS105
/-! Rows are divided (reference). -/
theorem n_shr4 {m : Nat} (hm : m < 2147483648) : nI m >>> ((4 : Int32) &&& 31) = nI (m / 16) := by
  rw [i_eq, n_int (by omega)]
  show ((nI m).toBitVec.sshiftRight' (((4 : Int32) &&& 31).toBitVec.smod 32)).toInt = _
  rw [BitVec.toInt_sshiftRight', show (((4 : Int32) &&& 31).toBitVec.smod 32).toNat = 4 from by decide, Int.shiftRight_eq_div_pow]
  show (nI m).toInt / 16 = _
  rw [n_int hm]
  omega
theorem n_and1 (x : Int32) : ∃ d, d ≤ 1 ∧ x &&& 1 = nI d := by
  refine ⟨(x &&& 1).toBitVec.toNat, ?_, n_ofbv _⟩
  rw [Int32.toBitVec_and, BitVec.toNat_and]
  exact Nat.and_le_right
theorem n_andn {z : Int32} (h1 : -65536 ≤ z.toInt) (h2 : z.toInt < 0) : z &&& 65535 = nI (z.toInt + 65536).toNat := by
  refine Int32.toBitVec_inj.mp ?_
  apply BitVec.eq_of_toNat_eq
  rw [Int32.toBitVec_and, BitVec.toNat_and]
  show z.toBitVec.toNat &&& 65535 = (Int32.ofNat (z.toInt + 65536).toNat).toBitVec.toNat
  rw [Int32.toBitVec_ofNat']
  simp only [BitVec.toNat_ofNat]
  have e : z.toBitVec.toInt = z.toInt := rfl
  rw [BitVec.toInt_eq_toNat_cond] at e
  have hl := z.toBitVec.isLt
  have hz : (z.toBitVec.toNat : Int) = z.toInt + 4294967296 := by
    split at e <;> omega
  rw [show (65535 : Nat) = 2 ^ 16 - 1 from rfl, Nat.and_two_pow_sub_one_eq_mod]
  omega
/-- a limb less another and a borrow -/
theorem n_bor {x y w : Nat} (hx : x ≤ 65535) (hy : y ≤ 65535) (hw : w ≤ 1) : ∃ (w' d' : Nat), w' ≤ 1 ∧ d' ≤ 65535 ∧ (nI x - nI y - nI w) &&& 65535 = nI d' ∧ d' + y + w = x + w' * 65536 ∧ (0 ≤ nI x - nI y - nI w ↔ w' = 0) := by
  have e : (nI x - nI y - nI w).toInt = (x : Int) - y - w := by
    have e1 : (nI x - nI y).toInt = (x : Int) - y := by
      rw [i_sub (by rw [n_int (by omega), n_int (by omega)]; omega) (by rw [n_int (by omega), n_int (by omega)]; omega), n_int (by omega), n_int (by omega)]
    rw [i_sub (by rw [e1, n_int (by omega)]; omega) (by rw [e1, n_int (by omega)]; omega), e1, n_int (by omega)]
  by_cases q : 0 ≤ (x : Int) - y - w
  · refine ⟨0, x - y - w, by decide, by omega, ?_, by omega, ⟨fun _ => rfl, fun _ => i_le.mpr (by rw [e]; exact q)⟩⟩
    have : nI x - nI y - nI w = nI (x - y - w) := by
      rw [i_eq, e, n_int (by omega)]; omega
    rw [this, n_and _ (by omega), Nat.mod_eq_of_lt (by omega)]
  · refine ⟨1, x + 65536 - y - w, by decide, by omega, ?_, by omega, ⟨fun z => absurd (i_le.mp z) (by rw [e]; show ¬ (0 : Int) ≤ _; omega), fun z => absurd z (by decide)⟩⟩
    rw [n_andn (by rw [e]; omega) (by rw [e]; omega), e]
    congr 1
    omega
theorem vl_mono {f : Nat → Int32} {k n : Nat} (h : k ≤ n) : vl f k ≤ vl f n := by
  induction n with
  | zero => rw [show k = 0 by omega]; exact Nat.le_refl _
  | succ n ih =>
    by_cases e : k = n + 1
    · rw [e]; exact Nat.le_refl _
    · have := ih (by omega)
      have v : vl f (n + 1) = vl f n + dg f n * 65536 ^ n := rfl
      omega
theorem n_mul16 {w : Nat} (h : w ≤ 64) : (16 : Int32) * nI w = nI (16 * w) := by
  have h1 : (16 : Int32) = nI 16 := rfl
  rw [h1]
  exact (Int32.ofNat_mul 16 w).symm
section DIV
variable {σ : MS}
/-- the rest so far -/
def DR (σ τ : MS) (na nb r j : Nat) : Prop := NF σ τ ∧ τ.2.2 42 = σ.2.2 42 ∧ τ.2.2 43 = σ.2.2 43 ∧ τ.1 84 = nI na ∧ τ.1 85 = nI nb ∧ τ.1 89 = nI na ∧ τ.1 90 = nI r ∧ LM (τ.2.2 46) r ∧ (r = 0 ∨ 65536 ^ (r - 1) ≤ vl (τ.2.2 46) r) ∧ vl (τ.2.2 46) r < 2 ^ j
/-- noughts at the top go -/
theorem dr_18 {na nb bit j : Nat} {Q : Int32 × MS → Prop} : ∀ (r : Nat) (N : Nat → Int32) (τ : MS), r ≤ 66 → N 1 = nI bit → NF σ τ → τ.2.2 42 = σ.2.2 42 → τ.2.2 43 = σ.2.2 43 → τ.1 84 = nI na → τ.1 85 = nI nb → τ.1 89 = nI na → τ.1 90 = nI r → LM (τ.2.2 46) r → vl (τ.2.2 46) r < 2 ^ j → (∀ (r' : Nat) (N' : Nat → Int32) (τ' : MS), N' 1 = nI bit → DR σ τ' na nb r' j → Tm (fun k => x_divideRows k 19 N' τ') Q) → Tm (fun k => x_divideRows k 18 N τ) Q
  | 0, N, τ, hr, n1, hF, t42, t43, t84, t85, t89, t90, hL, hv, H => by
    refine Tm_suc (fun k => by rw [x_divideRows]) ?_
    rw [t90]
    exact Tm_ite (fun _ => H 0 N τ n1 ⟨hF, t42, t43, t84, t85, t89, t90, hL, Or.inl rfl, hv⟩) (fun q => absurd ((n_le0 (by decide)).mpr rfl) q)
  | r + 1, N, τ, hr, n1, hF, t42, t43, t84, t85, t89, t90, hL, hv, H => by
    refine Tm_suc (fun k => by rw [x_divideRows]) ?_
    rw [t90, show nI (r + 1) - 1 = nI r from n_sub (p := r + 1) (q := 1) (by omega) (by omega)]
    refine Tm_ite (fun q => absurd ((n_le0 (by omega)).mp q) (by omega)) (fun _ => ?_)
    refine Tm_chk (n_in (by omega) (by omega)) ?_
    rw [n_cl (p := r) (by omega)]
    refine Tm_ite (fun z => ?_) (fun z => H (r + 1) N τ n1 ⟨hF, t42, t43, t84, t85, t89, t90, hL, Or.inr ((vl_top hL).mpr z), hv⟩)
    have v1 : vl (τ.2.2 46) (r + 1) = vl (τ.2.2 46) r + dg (τ.2.2 46) r * 65536 ^ r := rfl
    exact dr_18 r N (mSc τ 90 (nI r)) (by omega) n1 (NF_tr hF (NF_sc (by decide))) t42 t43 t84 t85 t89 rfl (LM_mo hL (by omega)) (by show vl (τ.2.2 46) r < 2 ^ j; omega) H
/-- the divisor is taken off -/
theorem dr_12 {na nb bit j r : Nat} {Q : Int32 × MS → Prop} {R0 : Nat → Int32} (hr : r ≤ 66) (hnb : nb ≤ 64) (hB : LM (σ.2.2 43) nb) (hge : vl (σ.2.2 43) nb ≤ vl R0 r) (hR0 : vl R0 r < 2 ^ j)
    (H : ∀ (r' : Nat) (N' : Nat → Int32) (τ' : MS), N' 1 = nI bit → DR σ τ' na nb r' j → Tm (fun k => x_divideRows k 19 N' τ') Q) :
    ∀ (q k w : Nat) (N : Nat → Int32) (τ : MS), q + k = r → w ≤ 1 → N 1 = nI bit → N 3 = nI w → N 4 = nI k → NF σ τ → τ.2.2 42 = σ.2.2 42 → τ.2.2 43 = σ.2.2 43 → τ.1 84 = nI na → τ.1 85 = nI nb → τ.1 89 = nI na → τ.1 90 = nI r → LM (τ.2.2 46) r → (∀ i, k ≤ i → τ.2.2 46 i = R0 i) → vl (τ.2.2 46) k + vl (σ.2.2 43) (min k nb) = vl R0 k + w * 65536 ^ k → Tm (fun f => x_divideRows f 12 N τ) Q := by
  intro q
  induction q with
  | zero =>
    intro k w N τ hk hw n1 n3 n4 hF t42 t43 t84 t85 t89 t90 hL hold he
    refine Tm_suc (fun k => by rw [x_divideRows]) ?_
    rw [t90, n4]
    refine Tm_ite (fun _ => ?_) (fun q => absurd ((n_le (by omega) (by omega)).mpr (by omega)) q)
    have hk : k = r := by omega
    subst hk
    have hlt := vl_lt k hL
    have hble : vl (σ.2.2 43) (min k nb) ≤ vl (σ.2.2 43) nb := vl_mono (Nat.min_le_right _ _)
    have hv : vl (τ.2.2 46) k < 2 ^ j := by
      by_cases z : w = 0
      · rw [z, Nat.zero_mul] at he; omega
      · have : w = 1 := by omega
        rw [this, Nat.one_mul] at he; omega
    exact dr_18 k N τ hr n1 hF t42 t43 t84 t85 t89 t90 hL hv H
  | succ q ih =>
    intro k w N τ hk hw n1 n3 n4 hF t42 t43 t84 t85 t89 t90 hL hold he
    obtain ⟨x1, x2⟩ := LM_dg hL (i := k) (by omega)
    have xR : dg R0 k = dg (τ.2.2 46) k := by unfold dg; rw [hold k (Nat.le_refl _)]
    -- a limb
    have l14 : ∀ (y : Nat) (M : Nat → Int32), y ≤ 65535 → vl (σ.2.2 43) (min (k + 1) nb) = vl (σ.2.2 43) (min k nb) + y * 65536 ^ k → M 1 = nI bit → M 3 = nI w → M 4 = nI k → M 100 = nI y → M 101 = nI (dg (τ.2.2 46) k) → Tm (fun f => x_divideRows f 14 M τ) Q := by
      intro y M hy hmin m1 m3 m4 m100 m101
      obtain ⟨w', d', hw', hd', e1, e2, e3⟩ := n_bor x2 hy hw
      have l16 : ∀ M : Nat → Int32, M 1 = nI bit → M 4 = nI k → M 5 = nI (dg (τ.2.2 46) k) - nI y - nI w → M 100 = nI w' → Tm (fun f => x_divideRows f 16 M τ) Q := by
        intro M m1 m4 m5 m100
        refine Tm_suc (fun k => by rw [x_divideRows]) ?_
        rw [m4]
        refine Tm_chk (n_in (by omega) (by omega)) ?_
        rw [n_cl (p := k) (by omega), m5, e1]
        show Tm (fun f => x_divideRows f 17 (upd M 3 (M 100)) (mAr τ 46 k (nI d'))) _
        refine Tm_suc (fun k => by rw [x_divideRows]) ?_
        refine ih (k + 1) w' _ _ (by omega) hw' m1 m100 (by show M 4 + 1 = _; rw [m4, n_add1]) (NF_tr hF (NF_ar (by decide))) (by rw [mAr_o (by decide)]; exact t42) (by rw [mAr_o (by decide)]; exact t43) t84 t85 t89 t90 (by rw [mAr_s]; exact LM_upd hL ⟨d', hd', rfl⟩) (fun i hi => by rw [mAr_s, upd_other (by omega)]; exact hold i (by omega)) ?_
        have v1 : vl ((mAr τ 46 k (nI d')).2.2 46) (k + 1) = vl (τ.2.2 46) k + d' * 65536 ^ k := by
          rw [mAr_s]
          show vl (upd (τ.2.2 46) k (nI d')) k + dg (upd (τ.2.2 46) k (nI d')) k * 65536 ^ k = _
          rw [vl_upd (Nat.le_refl _), dg_nI (d := d') upd_same (by omega)]
        have v2 : vl R0 (k + 1) = vl R0 k + dg (τ.2.2 46) k * 65536 ^ k := by
          show vl R0 k + dg R0 k * 65536 ^ k = _
          rw [xR]
        rw [v1, v2, hmin, Nat.pow_succ]
        have e4 : (d' + y + w) * 65536 ^ k = (dg (τ.2.2 46) k + w' * 65536) * 65536 ^ k := by rw [e2]
        rw [Nat.add_mul, Nat.add_mul, Nat.add_mul] at e4
        have e5 : w' * 65536 * 65536 ^ k = w' * (65536 ^ k * 65536) := by rw [Nat.mul_assoc, Nat.mul_comm 65536]
        rw [e5] at e4
        omega
      refine Tm_suc (fun k => by rw [x_divideRows]) ?_
      rw [m101, m100, m3]
      refine Tm_ite (fun z => ?_) (fun z => ?_)
      · refine Tm_suc (fun k => by rw [x_divideRows]) ?_
        exact l16 _ m1 m4 rfl (by rw [e3.mp z]; rfl)
      · refine l16 _ m1 m4 rfl ?_
        have : w' = 1 := by
          by_cases c : w' = 0
          · exact absurd (e3.mpr c) z
          · omega
        rw [this]; rfl
    refine Tm_suc (fun k => by rw [x_divideRows]) ?_
    rw [t90, n4, t85]
    refine Tm_ite (fun q => absurd ((n_le (by omega) (by omega)).mp q) (by omega)) (fun _ => ?_)
    refine Tm_chk (n_in (by omega) (by omega)) ?_
    rw [n_cl (p := k) (by omega)]
    refine Tm_ite (fun z => ?_) (fun z => ?_)
    · have z := (n_le (by omega) (by omega)).mp z
      refine Tm_suc (fun k => by rw [x_divideRows]) ?_
      exact l14 0 _ (by decide) (by rw [Nat.min_eq_right (by omega), Nat.min_eq_right (by omega)]; omega) n1 n3 n4 rfl x1
    · have z : k < nb := by
        by_cases c : nb ≤ k
        · exact absurd ((n_le (by omega) (by omega)).mpr c) z
        · omega
      obtain ⟨y1, y2⟩ := LM_dg hB (i := k) z
      refine Tm_chk (fun z => ?_) ?_
      · rcases z with z | z
        · have := (n_lt (q := 0) (by omega) (by decide)).mp z
          omega
        · omega
      exact l14 (dg (σ.2.2 43) k) _ y2 (by rw [Nat.min_eq_left (by omega), Nat.min_eq_left (by omega)]; rfl) n1 n3 n4 (by show τ.2.2 43 k = _; rw [t43]; exact y1) x1
/-- one bit more -/
theorem dr_7 {na nb bit j r c0 : Nat} {Q : Int32 × MS → Prop} {R0 : Nat → Int32} (hr : r ≤ 65) (hnb : nb ≤ 64) (hB : LM (σ.2.2 43) nb) (hz : r = 0 ∨ 65536 ^ (r - 1) ≤ vl R0 r) (hR0 : vl R0 r < 2 ^ j) (hc0 : c0 ≤ 1)
    (H19 : ∀ (r' : Nat) (N' : Nat → Int32) (τ' : MS), N' 1 = nI bit → DR σ τ' na nb r' (j + 1) → Tm (fun k => x_divideRows k 19 N' τ') Q)
    (H20 : ∀ (r' : Nat) (N' : Nat → Int32) (τ' : MS), N' 1 = nI bit → DR σ τ' na nb r' (j + 1) → Tm (fun k => x_divideRows k 20 N' τ') Q) :
    ∀ (q k c : Nat) (N : Nat → Int32) (τ : MS), q + k = r → c ≤ 1 → N 1 = nI bit → N 2 = nI c → N 3 = nI k → NF σ τ → τ.2.2 42 = σ.2.2 42 → τ.2.2 43 = σ.2.2 43 → τ.1 84 = nI na → τ.1 85 = nI nb → τ.1 89 = nI na → τ.1 90 = nI r → LM (τ.2.2 46) r → (∀ i, k ≤ i → τ.2.2 46 i = R0 i) → vl (τ.2.2 46) k + c * 65536 ^ k = 2 * vl R0 k + c0 → Tm (fun f => x_divideRows f 7 N τ) Q := by
  intro q
  induction q with
  | zero =>
    intro k c N τ hk hc n1 n2 n3 hF t42 t43 t84 t85 t89 t90 hL hold he
    have hk : k = r := by omega
    subst hk
    have hpw : 2 ^ (j + 1) = 2 * 2 ^ j := by rw [Nat.pow_succ, Nat.mul_comm]
    -- behind the shift
    have l11 : ∀ (r' : Nat) (N : Nat → Int32) (τ : MS), r' ≤ 66 → N 1 = nI bit → DR σ τ na nb r' (j + 1) → Tm (fun f => x_divideRows f 11 N τ) Q := by
      intro r' N τ hr' n1 hD
      have hD0 := hD
      obtain ⟨d1, d2, d3, d4, d5, d6, d7, d8, d9, d10⟩ := hD
      refine Tm_suc (fun k => by rw [x_divideRows]) ?_
      rw [d7, d5]
      refine Tm_ob (s_cmpR46v (n := r') (m := nb) (by omega) (by omega) d8 (by rw [d3]; exact hB) d9 rfl rfl) (fun r1 hr1 => ?_)
      obtain ⟨e1, e2⟩ := hr1
      rw [e1]
      refine Tm_ite (fun _ => H20 r' N τ n1 hD0) (fun z => ?_)
      have e2 := e2.resolve_left z
      rw [d3] at e2
      refine dr_12 (r := r') (R0 := τ.2.2 46) hr' hnb hB e2 d10 H19 r' 0 0 _ τ (by omega) (by decide) n1 rfl rfl d1 d2 d3 d4 d5 d6 d7 d8 (fun _ _ => rfl) ?_
      rw [Nat.zero_mul]
      show 0 + vl (σ.2.2 43) (min 0 nb) = 0 + 0
      rw [Nat.min_eq_left (Nat.zero_le _)]; rfl
    refine Tm_suc (fun k => by rw [x_divideRows]) ?_
    rw [t90, n3]
    refine Tm_ite (fun _ => ?_) (fun q => absurd ((n_le (by omega) (by omega)).mpr (by omega)) q)
    refine Tm_suc (fun k => by rw [x_divideRows]) ?_
    rw [n2, t90]
    refine Tm_ite (fun z => ?_) (fun z => ?_)
    · have z := (n_le0 (by omega)).mp z
      rw [z, Nat.zero_mul] at he
      refine l11 k N τ (by omega) n1 ⟨hF, t42, t43, t84, t85, t89, t90, hL, ?_, by omega⟩
      rcases hz with hz | hz
      · exact Or.inl hz
      · exact Or.inr (by omega)
    · have z : c = 1 := by
        by_cases y : c = 0
        · exact absurd ((n_le0 (by omega)).mpr y) z
        · omega
      rw [z, Nat.one_mul] at he
      refine Tm_chk (n_in (by omega) (by omega)) ?_
      rw [n_cl (p := k) (by omega), z]
      show Tm (fun f => x_divideRows f 10 N (mAr τ 46 k (nI 1))) _
      refine Tm_suc (fun k => by rw [x_divideRows]) ?_
      show Tm (fun f => x_divideRows f 11 N (mSc (mAr τ 46 k (nI 1)) 90 (τ.1 90 + 1))) _
      rw [t90, n_add1]
      have v1 : vl ((mAr τ 46 k (nI 1)).2.2 46) (k + 1) = vl (τ.2.2 46) k + 65536 ^ k := by
        rw [mAr_s]
        show vl (upd (τ.2.2 46) k (nI 1)) k + dg (upd (τ.2.2 46) k (nI 1)) k * 65536 ^ k = _
        rw [vl_upd (Nat.le_refl _), dg_nI (d := 1) upd_same (by decide), Nat.one_mul]
      refine l11 (k + 1) N _ (by omega) n1 ⟨NF_tr hF (NF_tr (NF_ar (by decide)) (NF_sc (by decide))), ?_, ?_, t84, t85, t89, rfl, ?_, Or.inr ?_, ?_⟩
      · show (mAr τ 46 k (nI 1)).2.2 42 = _
        rw [mAr_o (by decide)]; exact t42
      · show (mAr τ 46 k (nI 1)).2.2 43 = _
        rw [mAr_o (by decide)]; exact t43
      · show LM ((mAr τ 46 k (nI 1)).2.2 46) (k + 1)
        rw [mAr_s]; exact LM_suc hL ⟨1, by decide, rfl⟩
      · show 65536 ^ k ≤ vl ((mAr τ 46 k (nI 1)).2.2 46) (k + 1)
        rw [v1]; omega
      · show vl ((mAr τ 46 k (nI 1)).2.2 46) (k + 1) < _
        rw [v1]; omega
  | succ q ih =>
    intro k c N τ hk hc n1 n2 n3 hF t42 t43 t84 t85 t89 t90 hL hold he
    obtain ⟨x1, x2⟩ := LM_dg hL (i := k) (by omega)
    have xR : dg R0 k = dg (τ.2.2 46) k := by unfold dg; rw [hold k (Nat.le_refl _)]
    refine Tm_suc (fun k => by rw [x_divideRows]) ?_
    rw [t90, n3, n2]
    refine Tm_ite (fun q => absurd ((n_le (by omega) (by omega)).mp q) (by omega)) (fun _ => ?_)
    refine Tm_chk (n_in (by omega) (by omega)) ?_
    refine Tm_chk (n_in (by omega) (by omega)) ?_
    rw [n_cl (p := k) (by omega), x1, n_shl1 x2 hc, n_and _ (by omega)]
    show Tm (fun f => x_divideRows f 8 (upd N 4 (nI (2 * dg (τ.2.2 46) k + c))) (mAr τ 46 k (nI ((2 * dg (τ.2.2 46) k + c) % 65536)))) _
    refine Tm_suc (fun k => by rw [x_divideRows]) ?_
    have n4 : upd N 4 (nI (2 * dg (τ.2.2 46) k + c)) 4 >>> ((16 : Int32) &&& 31) = nI ((2 * dg (τ.2.2 46) k + c) / 65536) := by
      rw [upd_same]; exact n_shr _ (by omega)
    rw [n4]
    refine ih (k + 1) ((2 * dg (τ.2.2 46) k + c) / 65536) _ _ (by omega) (by omega) n1 rfl (by show N 3 + 1 = _; rw [n3, n_add1]) (NF_tr hF (NF_ar (by decide))) (by rw [mAr_o (by decide)]; exact t42) (by rw [mAr_o (by decide)]; exact t43) t84 t85 t89 t90 (by rw [mAr_s]; exact LM_upd hL ⟨_, by omega, rfl⟩) (fun i hi => by rw [mAr_s, upd_other (by omega)]; exact hold i (by omega)) ?_
    have v1 : vl ((mAr τ 46 k (nI ((2 * dg (τ.2.2 46) k + c) % 65536))).2.2 46) (k + 1) = vl (τ.2.2 46) k + ((2 * dg (τ.2.2 46) k + c) % 65536) * 65536 ^ k := by
      rw [mAr_s]
      show vl (upd (τ.2.2 46) k _) k + dg (upd (τ.2.2 46) k (nI ((2 * dg (τ.2.2 46) k + c) % 65536))) k * 65536 ^ k = _
      rw [vl_upd (Nat.le_refl _), dg_nI upd_same (by omega)]
    have v2 : vl R0 (k + 1) = vl R0 k + dg (τ.2.2 46) k * 65536 ^ k := by
      show vl R0 k + dg R0 k * 65536 ^ k = _
      rw [xR]
    rw [v1, v2, Nat.pow_succ]
    generalize hd : dg (τ.2.2 46) k = d at *
    have e2 : (2 * d + c) % 65536 + (2 * d + c) / 65536 * 65536 = 2 * d + c := by omega
    have e4 : ((2 * d + c) % 65536 + (2 * d + c) / 65536 * 65536) * 65536 ^ k = (2 * d + c) * 65536 ^ k := by rw [e2]
    rw [Nat.add_mul, Nat.add_mul, Nat.mul_assoc 2 d] at e4
    have e5 : (2 * d + c) / 65536 * 65536 * 65536 ^ k = (2 * d + c) / 65536 * (65536 ^ k * 65536) := by rw [Nat.mul_assoc, Nat.mul_comm 65536]
    rw [e5] at e4
    omega
theorem s_divideRows {na nb : Nat} (hna : na ≤ 64) (hnb : nb ≤ 64) (h84 : σ.1 84 = nI na) (h85 : σ.1 85 = nI nb) (hB : LM (σ.2.2 43) nb) (L : Nat → Int32) : Tm (fun k => x_divideRows k 0 L σ) (fun r => NF σ r.2 ∧ r.2.2.2 43 = σ.2.2 43 ∧ r.2.1 85 = nI nb ∧ r.2.1 89 = nI na ∧ ∃ e, e ≤ 65 ∧ r.2.1 90 = nI e ∧ LM (r.2.2.2 46) e) := by
  have l6 : ∀ (b r : Nat) (N : Nat → Int32) (τ : MS), b ≤ 16 * na → N 1 = nI b - 1 → DR σ τ na nb r (16 * na - b) → Tm (fun k => x_divideRows k 6 N τ) (fun r => NF σ r.2 ∧ r.2.2.2 43 = σ.2.2 43 ∧ r.2.1 85 = nI nb ∧ r.2.1 89 = nI na ∧ ∃ e, e ≤ 65 ∧ r.2.1 90 = nI e ∧ LM (r.2.2.2 46) e) := by
    intro b
    induction b with
    | zero =>
      intro r N τ hb n1 hD
      obtain ⟨d1, d2, d3, d4, d5, d6, d7, d8, d9, d10⟩ := hD
      have hr := vl_len d9 d10
      refine Tm_suc (fun k => by rw [x_divideRows]) ?_
      rw [n1]
      refine Tm_ite (fun _ => ?_) (fun z => absurd (show nI 0 - 1 < 0 by decide) z)
      refine Tm_suc (fun k => by rw [x_divideRows]) ?_
      exact Tm_some ⟨d1, d3, d5, d6, r, by omega, d7, d8⟩
    | succ b ih =>
      intro r N τ hb n1 hD
      obtain ⟨d1, d2, d3, d4, d5, d6, d7, d8, d9, d10⟩ := hD
      have hr := vl_len d9 d10
      rw [show nI (b + 1) - 1 = nI b from n_sub (p := b + 1) (q := 1) (by omega) (by omega)] at n1
      have ej : 16 * na - (b + 1) + 1 = 16 * na - b := by omega
      have H20 : ∀ (r' : Nat) (N' : Nat → Int32) (τ' : MS), N' 1 = nI b → DR σ τ' na nb r' (16 * na - (b + 1) + 1) → Tm (fun k => x_divideRows k 20 N' τ') (fun r => NF σ r.2 ∧ r.2.2.2 43 = σ.2.2 43 ∧ r.2.1 85 = nI nb ∧ r.2.1 89 = nI na ∧ ∃ e, e ≤ 65 ∧ r.2.1 90 = nI e ∧ LM (r.2.2.2 46) e) := fun r' N' τ' m1 hD' => by
        rw [ej] at hD'
        refine Tm_suc (fun k => by rw [x_divideRows]) ?_
        rw [m1]
        exact ih r' _ τ' (by omega) (by show nI b + (-1) = nI b - 1; exact (Int32.sub_eq_add_neg _ _).symm) hD'
      have H19 : ∀ (r' : Nat) (N' : Nat → Int32) (τ' : MS), N' 1 = nI b → DR σ τ' na nb r' (16 * na - (b + 1) + 1) → Tm (fun k => x_divideRows k 19 N' τ') (fun r => NF σ r.2 ∧ r.2.2.2 43 = σ.2.2 43 ∧ r.2.1 85 = nI nb ∧ r.2.1 89 = nI na ∧ ∃ e, e ≤ 65 ∧ r.2.1 90 = nI e ∧ LM (r.2.2.2 46) e) := fun r' N' τ' m1 hD' => by
        refine Tm_suc (fun k => by rw [x_divideRows]) ?_
        rw [m1, n_shr4 (by omega)]
        refine Tm_chk (n_in (by omega) (by omega)) ?_
        refine Tm_chk (n_in (by omega) (by omega)) ?_
        generalize (τ'.2.2 45 (nI (b / 16)).toNatClampNeg ||| (1 : Int32) <<< (nI b &&& 15 &&& 31)) = x
        show Tm (fun k => x_divideRows k 20 N' (mAr τ' 45 (nI (b / 16)).toNatClampNeg x)) _
        obtain ⟨q1, q2, q3, q4, q5, q6, q7, q8, q9, q10⟩ := hD'
        have q46 : (mAr τ' 45 (nI (b / 16)).toNatClampNeg x).2.2 46 = τ'.2.2 46 := mAr_o (by decide)
        refine H20 r' N' _ m1 ⟨NF_tr q1 (NF_ar (by decide)), (mAr_o (by decide)).trans q2, (mAr_o (by decide)).trans q3, q4, q5, q6, q7, ?_, ?_, ?_⟩
        · rw [q46]; exact q8
        · rw [q46]; exact q9
        · rw [q46]; exact q10
      refine Tm_suc (fun k => by rw [x_divideRows]) ?_
      rw [n1, n_shr4 (by omega)]
      refine Tm_ite (fun z => absurd ((n_lt (q := 0) (by omega) (by decide)).mp z) (by omega)) (fun _ => ?_)
      refine Tm_chk (n_in (by omega) (by omega)) ?_
      obtain ⟨c0, c1, c2⟩ := n_and1 (τ.2.2 42 (nI (b / 16)).toNatClampNeg >>> (nI b &&& 15 &&& 31))
      rw [c2]
      refine dr_7 (R0 := τ.2.2 46) (by omega) hnb hB d9 d10 c1 H19 H20 r 0 c0 _ τ (by omega) c1 n1 rfl rfl d1 d2 d3 d4 d5 d6 d7 d8 (fun _ _ => rfl) ?_
      show 0 + c0 * 1 = 2 * 0 + c0
      omega
  have l3 : ∀ (j i : Nat) (N : Nat → Int32) (τ : MS), j + i = na → N 1 = nI i → DR σ τ na nb 0 0 → Tm (fun k => x_divideRows k 3 N τ) (fun r => NF σ r.2 ∧ r.2.2.2 43 = σ.2.2 43 ∧ r.2.1 85 = nI nb ∧ r.2.1 89 = nI na ∧ ∃ e, e ≤ 65 ∧ r.2.1 90 = nI e ∧ LM (r.2.2.2 46) e) := by
    intro j
    induction j with
    | zero =>
      intro i N τ hi n1 hD
      have t84 := hD.2.2.2.1
      refine Tm_suc (fun k => by rw [x_divideRows]) ?_
      rw [t84, n1]
      refine Tm_ite (fun _ => ?_) (fun q => absurd ((n_le (by omega) (by omega)).mpr (by omega)) q)
      refine Tm_suc (fun k => by rw [x_divideRows]) ?_
      rw [t84, show (16 : Int32) * nI na = nI (16 * na) from n_mul16 hna]
      exact l6 (16 * na) 0 _ τ (Nat.le_refl _) rfl (by rw [Nat.sub_self]; exact hD)
    | succ j ih =>
      intro i N τ hi n1 hD
      have t84 := hD.2.2.2.1
      refine Tm_suc (fun k => by rw [x_divideRows]) ?_
      rw [t84, n1]
      refine Tm_ite (fun q => absurd ((n_le (by omega) (by omega)).mp q) (by omega)) (fun _ => ?_)
      refine Tm_chk (n_in (by omega) (by omega)) ?_
      rw [n_cl (p := i) (by omega)]
      show Tm (fun k => x_divideRows k 4 N (mAr τ 45 i 0)) _
      refine Tm_suc (fun k => by rw [x_divideRows]) ?_
      obtain ⟨q1, q2, q3, q4, q5, q6, q7, q8, q9, q10⟩ := hD
      exact ih (i + 1) _ _ (by omega) (by show N 1 + 1 = _; rw [n1, n_add1]) ⟨NF_tr q1 (NF_ar (by decide)), (mAr_o (by decide)).trans q2, (mAr_o (by decide)).trans q3, q4, q5, q6, q7, fun i hi => absurd hi (Nat.not_lt_zero i), Or.inl rfl, Nat.zero_lt_one⟩
  refine Tm_suc (fun k => by rw [x_divideRows]) ?_
  rw [h84]
  show Tm (fun k => x_divideRows k 1 L (mSc σ 89 (nI na))) _
  refine Tm_suc (fun k => by rw [x_divideRows]) ?_
  show Tm (fun k => x_divideRows k 2 L (mSc (mSc σ 89 (nI na)) 90 0)) _
  refine Tm_suc (fun k => by rw [x_divideRows]) ?_
  exact l3 na 0 _ _ (by omega) rfl ⟨NF_tr (NF_sc (by decide)) (NF_sc (by decide)), rfl, rfl, h84, h85, rfl, rfl, fun i hi => absurd hi (Nat.not_lt_zero i), Or.inl rfl, Nat.zero_lt_one⟩
end DIV
end JnS105
section JnS106
/-! Quotients, rests (reference). -/
section DVD
variable {g : Nat → Prop} {l : List Nat} {B h t : Nat} {σ : MS}
theorem s_divide (hP : VP g l B h t σ) {a b n m : Nat} (hA : Wh σ a n) (hB : Wh σ b m) {L : Nat → Int32} (h1 : L 1 = nI a) (h2 : L 2 = nI b) : Tm (fun k => x_divide k 0 L σ) (VO g B h t σ) := by
  obtain ⟨a1, a2, a3, a4, a5⟩ := hA
  have hbb := hB.2.2.2.1
  have hbm := hB.2.1
  have bS := hB.2.2.2.2.2
  refine Tm_suc (fun k => by rw [x_divide]) ?_
  refine Tm_ob (s_signOf hP.1 (m := b) (by omega) (by exact h2)) (fun r0 hr0 => ?_)
  rw [hr0]
  refine Tm_ite (fun _ => ?_) (fun w0 => ?_)
  · refine Tm_ob (s_fail _ σ) (fun r hr => ?_)
    rw [hr]
    exact Tm_some (VO_er hP (e := 2) (by decide))
  refine Tm_suc (fun k => by rw [x_divide]) ?_
  refine Tm_ob (s_loadA hP.1 a1 a2 a3 a4 a5 (by exact h1)) (fun r1 hr1 => ?_)
  obtain ⟨hF1, p84, pA, _, _⟩ := hr1
  obtain ⟨b1, b2, b3, b4, b5⟩ := Wh_NF hF1 hB
  refine Tm_ob (s_loadB (NF_HS hF1 hP.1) b1 b2 b3 b4 b5 (by exact h2)) (fun r2 hr2 => ?_)
  obtain ⟨hF2, p85, pB, q42, q84⟩ := hr2
  have s84 : r2.2.1 84 = nI (n - 1) := q84.trans p84
  refine Tm_ob (s_divideRows (na := n - 1) (nb := m - 1) (by omega) (by omega) s84 p85 pB _) (fun r3 hr3 => ?_)
  obtain ⟨hF3, q43, u85, u89, e, he, u90, uR⟩ := hr3
  have hF := NF_tr hF1 (NF_tr hF2 hF3)
  have uB : LM (r3.2.2.2 43) (m - 1) := by rw [q43]; exact pB
  refine Tm_ob (s_signOf (NF_HS hF hP.1) (m := a) (by omega) (by exact h1)) (fun r4 hr4 => ?_)
  rw [hr4, hF.2 28 (by decide)]
  have bS := bS.resolve_right (fun q => w0 q.2)
  have wf : ∀ (τ : MS) (c : Nat), c ≤ 300 → NF σ τ → τ.1 86 = nI c → LM (τ.2.2 44) c → ∀ x : Int32, SgO x (τ.2.2 44) c → Tm (fun k => ob (x_wholeOf k 0 (upd (fun _ => 0) 1 x) τ) (fun r1 => some (r1.1, r1.2))) (VO g B h t σ) := fun τ c hc hF t86 hLM x hx => VO_NF_Tm hF hP (Tm_ob (s_wholeOf (NF_VP hF hP) hc t86 hLM _ hx) (fun r hr => Tm_some hr))
  -- the rest
  have l7 : ∀ (c j i : Nat) (N : Nat → Int32) (τ : MS), c ≤ 65 → (¬ N 4 = 0 → c ≤ m - 1) → j + i = c → N 6 = nI i → NF σ τ → τ.1 86 = nI c → τ.1 90 = nI e → LM (τ.2.2 44) i → Tm (fun k => x_divide k 7 N τ) (VO g B h t σ) := by
    intro c j
    induction j with
    | zero =>
      intro i N τ hc hc4 hi n6 hF t86 t90 hLM
      refine Tm_suc (fun k => by rw [x_divide]) ?_
      rw [t86, n6]
      refine Tm_ite (fun _ => ?_) (fun q => absurd ((n_le (by omega) (by omega)).mpr (by omega)) q)
      refine Tm_suc (fun k => by rw [x_divide]) ?_
      exact wf τ c (by omega) hF t86 (LM_mo hLM (by omega)) _ (Or.inl (Or.inl rfl))
    | succ j ih =>
      intro i N τ hc hc4 hi n6 hF t86 t90 hLM
      have l13 : ∀ N : Nat → Int32, (¬ N 4 = 0 → c ≤ m - 1) → N 6 = nI i → Tm (fun k => x_divide k 13 N τ) (VO g B h t σ) := fun N n4 n6 => by
        refine Tm_suc (fun k => by rw [x_divide]) ?_
        rw [n6]
        refine Tm_chk (n_in (by omega) (by omega)) ?_
        rw [n_cl (p := i) (by omega)]
        show Tm (fun k => x_divide k 14 (upd N 5 (N 100)) (mAr τ 44 i (N 8 &&& 65535))) _
        refine Tm_suc (fun k => by rw [x_divide]) ?_
        exact ih (i + 1) _ _ hc n4 (by omega) (by show N 6 + 1 = _; rw [n6, n_add1]) (NF_tr hF (NF_ar (by decide))) t86 t90 (by rw [mAr_s]; exact LM_suc hLM (n_and16 _))
      have l12 : ∀ N : Nat → Int32, (¬ N 4 = 0 → c ≤ m - 1) → N 6 = nI i → Tm (fun k => x_divide k 12 N τ) (VO g B h t σ) := fun N n4 n6 => by
        refine Tm_suc (fun k => by rw [x_divide]) ?_
        exact l13 _ n4 n6
      have l11 : ∀ N : Nat → Int32, (¬ N 4 = 0 → c ≤ m - 1) → N 6 = nI i → Tm (fun k => x_divide k 11 N τ) (VO g B h t σ) := fun N n4 n6 => by
        refine Tm_suc (fun k => by rw [x_divide]) ?_
        refine Tm_ite (fun _ => l12 _ n4 n6) (fun _ => ?_)
        exact Tm_ite (fun _ => l12 _ n4 n6) (fun _ => l13 _ n4 n6)
      have l9 : ∀ N : Nat → Int32, (¬ N 4 = 0 → c ≤ m - 1) → N 6 = nI i → Tm (fun k => x_divide k 9 N τ) (VO g B h t σ) := fun N n4 n6 => by
        refine Tm_suc (fun k => by rw [x_divide]) ?_
        refine Tm_ite (fun _ => ?_) (fun w => ?_)
        · refine Tm_suc (fun k => by rw [x_divide]) ?_
          exact l11 _ n4 n6
        · have := n4 w
          rw [n6]
          refine Tm_chk (n_in (by omega) (by omega)) ?_
          exact l11 _ n4 n6
      refine Tm_suc (fun k => by rw [x_divide]) ?_
      rw [t86, n6, t90]
      refine Tm_ite (fun q => absurd ((n_le (by omega) (by omega)).mp q) (by omega)) (fun _ => ?_)
      refine Tm_ite (fun _ => ?_) (fun _ => ?_)
      · refine Tm_suc (fun k => by rw [x_divide]) ?_
        exact l9 _ hc4 n6
      · refine Tm_chk (n_in (by omega) (by omega)) ?_
        exact l9 _ hc4 n6
  -- the quotient
  have l24 : ∀ (c : Nat) (N : Nat → Int32) (τ : MS), c ≤ 66 → N 1 = nI a → N 2 = nI b → NF σ τ → τ.1 86 = nI c → LM (τ.2.2 44) c → (σ.2.2 28 (a + 4) = 0 → c = 0) → Tm (fun k => x_divide k 24 N τ) (VO g B h t σ) := fun c N τ hc n1 n2 hF t86 hLM hZ => by
    refine Tm_suc (fun k => by rw [x_divide]) ?_
    refine Tm_ob (s_signOf (NF_HS hF hP.1) (m := a) (by omega) (by exact n1)) (fun r3 hr3 => ?_)
    rw [hr3]
    refine Tm_ob (s_signOf (NF_HS hF hP.1) (m := b) (by omega) (by exact n2)) (fun r4 hr4 => ?_)
    rw [hr4, hF.2 28 (by decide)]
    refine VO_NF_Tm hF hP (Tm_ob (s_wholeOf (NF_VP hF hP) (by omega) t86 hLM _ ?_) (fun r hr => Tm_some hr))
    show SgO (σ.2.2 28 (a + 4) * σ.2.2 28 (b + 4)) _ _
    rcases a5.2 with q | q
    · exact Or.inl (Sg_mul q bS)
    · exact Or.inr (fun i hi => by have := hZ q.2; omega)
  have l20 : ∀ (j i : Nat) (N : Nat → Int32) (τ : MS), j + i = n - 1 → N 1 = nI a → N 2 = nI b → N 6 = nI i → (¬ N 5 ≤ 0 → ∃ d, d ≤ 65535 ∧ N 5 = nI d) → (σ.2.2 28 (a + 4) = 0 → n - 1 = 0 ∧ N 5 ≤ 0) → NF σ τ → τ.1 86 = nI (n - 1) → LM (τ.2.2 44) i → Tm (fun k => x_divide k 20 N τ) (VO g B h t σ) := by
    intro j
    induction j with
    | zero =>
      intro i N τ hi n1 n2 n6 n5 hZ hF t86 hLM
      refine Tm_suc (fun k => by rw [x_divide]) ?_
      rw [t86, n6]
      refine Tm_ite (fun _ => ?_) (fun q => absurd ((n_le (by omega) (by omega)).mpr (by omega)) q)
      refine Tm_suc (fun k => by rw [x_divide]) ?_
      refine Tm_ite (fun _ => l24 (n - 1) N τ (by omega) n1 n2 hF t86 (LM_mo hLM (by omega)) (fun q => (hZ q).1)) (fun z => ?_)
      rw [t86]
      refine Tm_chk (n_in (by omega) (by omega)) ?_
      rw [n_cl (p := n - 1) (by omega)]
      show Tm (fun k => x_divide k 23 N (mAr τ 44 (n - 1) (N 5))) _
      refine Tm_suc (fun k => by rw [x_divide]) ?_
      show Tm (fun k => x_divide k 24 N (mSc (mAr τ 44 (n - 1) (N 5)) 86 (τ.1 86 + 1))) _
      rw [t86, n_add1]
      exact l24 (n - 1 + 1) N _ (by omega) n1 n2 (NF_tr hF (NF_tr (NF_ar (by decide)) (NF_sc (by decide)))) rfl (by show LM ((mAr τ 44 (n - 1) (N 5)).2.2 44) (n - 1 + 1); rw [mAr_s]; exact LM_suc (LM_mo hLM (by omega)) (n5 z)) (fun q => absurd (hZ q).2 z)
    | succ j ih =>
      intro i N τ hi n1 n2 n6 n5 hZ hF t86 hLM
      refine Tm_suc (fun k => by rw [x_divide]) ?_
      rw [t86, n6]
      refine Tm_ite (fun q => absurd ((n_le (by omega) (by omega)).mp q) (by omega)) (fun _ => ?_)
      refine Tm_chk (n_in (by omega) (by omega)) ?_
      refine Tm_chk (n_in (by omega) (by omega)) ?_
      rw [n_cl (p := i) (by omega)]
      generalize τ.2.2 45 i + N 5 = x
      show Tm (fun k => x_divide k 21 (upd N 7 x) (mAr τ 44 i (x &&& 65535))) _
      refine Tm_suc (fun k => by rw [x_divide]) ?_
      exact ih (i + 1) _ _ (by omega) n1 n2 (by show N 6 + 1 = _; rw [n6, n_add1]) (fun z => n_shr16 x z) (fun q => by have := (hZ q).1; omega) (NF_tr hF (NF_ar (by decide))) t86 (by rw [mAr_s]; exact LM_suc hLM (n_and16 _))
  have l3 : ∀ N : Nat → Int32, N 1 = nI a → N 2 = nI b → (σ.2.2 28 (a + 4) = 0 → N 100 = 0) → Tm (fun k => x_divide k 3 N r3.2) (VO g B h t σ) := fun N n1 n2 n100 => by
    have nil : LM (r3.2.2.2 44) 0 := fun i hi => absurd hi (Nat.not_lt_zero i)
    refine Tm_suc (fun k => by rw [x_divide]) ?_
    refine Tm_ite (fun _ => ?_) (fun _ => ?_)
    · refine Tm_suc (fun k => by rw [x_divide]) ?_
      rw [u89]
      show Tm (fun k => x_divide k 17 (upd N 4 (N 100)) (mSc r3.2 86 (nI (n - 1)))) _
      have l19 : ∀ M : Nat → Int32, M 1 = nI a → M 2 = nI b → (M 100 = 0 ∨ M 100 = 1) → (σ.2.2 28 (a + 4) = 0 → M 100 = 0) → Tm (fun k => x_divide k 19 M (mSc r3.2 86 (nI (n - 1)))) (VO g B h t σ) := fun M m1 m2 m100 mz => by
        refine Tm_suc (fun k => by rw [x_divide]) ?_
        refine l20 (n - 1) 0 _ _ (by omega) m1 m2 rfl (fun z => ?_) (fun q => ⟨?_, ?_⟩) (NF_tr hF (NF_sc (by decide))) rfl nil
        · show ∃ d, d ≤ 65535 ∧ M 100 = nI d
          rcases m100 with q | q
          · exact ⟨0, by decide, q⟩
          · exact ⟨1, by decide, q⟩
        · rcases a5.2 with (p | p) | p
          · rw [p] at q; exact absurd q (by decide)
          · rw [p] at q; exact absurd q (by decide)
          · omega
        · show M 100 ≤ 0
          rw [mz q]; decide
      refine Tm_suc (fun k => by rw [x_divide]) ?_
      refine Tm_ite (fun _ => ?_) (fun w1 => l19 _ n1 n2 (Or.inr rfl) (fun q => absurd (n100 q) w1))
      refine Tm_suc (fun k => by rw [x_divide]) ?_
      exact l19 _ n1 n2 (Or.inl rfl) (fun _ => rfl)
    · have l5 : ∀ (c : Nat) (M : Nat → Int32), c ≤ 65 → (¬ M 4 = 0 → c ≤ m - 1) → M 100 = nI c → Tm (fun k => x_divide k 5 M r3.2) (VO g B h t σ) := fun c M hc m4 m100 => by
        refine Tm_suc (fun k => by rw [x_divide]) ?_
        rw [m100]
        show Tm (fun k => x_divide k 6 M (mSc r3.2 86 (nI c))) _
        refine Tm_suc (fun k => by rw [x_divide]) ?_
        exact l7 c c 0 _ _ hc m4 (by omega) rfl (NF_tr hF (NF_sc (by decide))) rfl u90 nil
      refine Tm_ite (fun w => ?_) (fun _ => ?_)
      · refine Tm_suc (fun k => by rw [x_divide]) ?_
        exact l5 e _ he (fun z => absurd w z) u90
      · exact l5 (m - 1) _ (by omega) (fun _ => Nat.le_refl _) u85
  have l2 : Tm (fun k => x_divide k 2 L r3.2) (VO g B h t σ) := by
    refine Tm_suc (fun k => by rw [x_divide]) ?_
    exact l3 _ h1 h2 (fun _ => rfl)
  refine Tm_ite (fun _ => l2) (fun w1 => ?_)
  exact Tm_ite (fun _ => l2) (fun _ => l3 _ h1 h2 (fun q => absurd (by rw [q]; show (0 : Int32) ≤ 0; decide) w1))
end DVD
end JnS106
section JnS107
/-! Wholes are printed (reference). -/
def PrF (σ σ' : MS) : Prop := (∀ j, ¬ (j = 84 ∨ j = 93) → σ'.1 j = σ.1 j) ∧ (∀ j, ¬ (j = 42 ∨ j = 48 ∨ j = 49) → σ'.2.2 j = σ.2.2 j)
theorem PrF_rf {σ : MS} : PrF σ σ := ⟨fun _ _ => rfl, fun _ _ => rfl⟩
theorem PrF_tr {σ τ υ : MS} (h : PrF σ τ) (k : PrF τ υ) : PrF σ υ := ⟨fun j hj => (k.1 j hj).trans (h.1 j hj), fun j hj => (k.2 j hj).trans (h.2 j hj)⟩
theorem PrF_sc {j : Nat} {σ : MS} {x : Int32} (hj : j = 84 ∨ j = 93) : PrF σ (mSc σ j x) := ⟨fun i hi => upd_other (fun e => hi (e ▸ hj)), fun _ _ => rfl⟩
theorem PrF_ar {j i : Nat} {σ : MS} {x : Int32} (hj : j = 42 ∨ j = 48 ∨ j = 49) : PrF σ (mAr σ j i x) := ⟨fun _ _ => rfl, fun k hk => mAr_o (fun e => hk (e ▸ hj))⟩
theorem PrF_HS {g : Nat → Prop} {l : List Nat} {B h : Nat} {σ τ : MS} (hN : PrF σ τ) (hS : HS g l B h σ) : HS g l B h τ := HS_c hS (hN.1 54 (by decide)) (hN.1 55 (by decide)) (hN.2 28 (by decide))
/-- so many bytes more at the most -/
def PrO (σ : MS) (p q : Nat) (r : Int32 × MS) : Prop := PrF σ r.2 ∧ ∃ p', r.2.1 93 = nI p' ∧ p ≤ p' ∧ p' ≤ q
theorem s_put {σ : MS} {p : Nat} (h93 : σ.1 93 = nI p) (hp : p < 12000) (L : Nat → Int32) : Tm (fun k => x_put k 0 L σ) (fun r => PrF σ r.2 ∧ r.2.1 93 = nI (p + 1) ∧ r.2.2.2 49 = σ.2.2 49 ∧ r.2.2.2 42 = σ.2.2 42 ∧ r.2.1 84 = σ.1 84) := by
  refine Tm_suc (fun k => by rw [x_put]) ?_
  rw [h93]
  refine Tm_chk (n_in (by omega) (by omega)) ?_
  rw [n_cl (p := p) (by omega)]
  show Tm (fun k => x_put k 1 L (mAr σ 48 p (L 1))) _
  refine Tm_suc (fun k => by rw [x_put]) ?_
  refine Tm_some ⟨PrF_tr (PrF_ar (Or.inr (Or.inl rfl))) (PrF_sc (Or.inr rfl)), ?_, ?_, ?_, rfl⟩
  · show σ.1 93 + 1 = _
    rw [h93, n_add1]
  · show (mAr σ 48 p (L 1)).2.2 49 = _
    exact mAr_o (by decide)
  · show (mAr σ 48 p (L 1)).2.2 42 = _
    exact mAr_o (by decide)
theorem vl_set {f : Nat → Int32} {i y : Nat} (hy : y < 2147483648) : ∀ n : Nat, i < n → vl (upd f i (nI y)) n + dg f i * 65536 ^ i = vl f n + y * 65536 ^ i
  | 0, h => absurd h (Nat.not_lt_zero i)
  | n + 1, h => by
    show vl (upd f i (nI y)) n + dg (upd f i (nI y)) n * 65536 ^ n + dg f i * 65536 ^ i = vl f n + dg f n * 65536 ^ n + y * 65536 ^ i
    by_cases e : i = n
    · subst e
      rw [vl_upd (Nat.le_refl _), dg_nI upd_same hy]
      omega
    · have ih := vl_set (f := f) (i := i) hy n (by omega)
      have e2 : dg (upd f i (nI y)) n = dg f n := by unfold dg; rw [upd_other (by omega)]
      rw [e2]
      omega
theorem n_shl16 {c d : Nat} (hc : c ≤ 9) (hd : d ≤ 65535) : (nI c <<< ((16 : Int32) &&& 31)) ||| nI d = nI (c * 65536 + d) := by
  refine Int32.toBitVec_inj.mp ?_
  show (nI c).toBitVec <<< (((16 : Int32) &&& 31).toBitVec.smod 32) ||| (nI d).toBitVec = (nI (c * 65536 + d)).toBitVec
  apply BitVec.eq_of_toNat_eq
  have e : (((16 : Int32) &&& 31).toBitVec.smod 32) = 16#32 := by decide
  rw [e, BitVec.toNat_or, BitVec.shiftLeft_eq', BitVec.toNat_shiftLeft]
  show ((Int32.ofNat c).toBitVec.toNat <<< 16 % 2 ^ 32) ||| (Int32.ofNat d).toBitVec.toNat = (Int32.ofNat (c * 65536 + d)).toBitVec.toNat
  rw [Int32.toBitVec_ofNat', Int32.toBitVec_ofNat', Int32.toBitVec_ofNat']
  simp only [BitVec.toNat_ofNat]
  rw [Nat.mod_eq_of_lt (a := c) (by omega), Nat.mod_eq_of_lt (a := d) (by omega), Nat.mod_eq_of_lt (a := c * 65536 + d) (by omega), Nat.shiftLeft_eq]
  rw [Nat.mod_eq_of_lt (by omega)]
  have := Nat.two_pow_add_eq_or_of_lt (i := 16) (b := d) (by omega) c
  rw [show c * 2 ^ 16 = 2 ^ 16 * c from Nat.mul_comm _ _, ← this]
theorem n_mod10 {x : Nat} (hx : x < 2147483648) : nI x - nI x / 10 * 10 = nI (x % 10) ∧ nI x / 10 = nI (x / 10) := by
  have e : nI x / 10 = nI (x / 10) := n_div (q := 10) hx (by decide) (by decide)
  rw [e]
  have e2 : nI (x / 10) * 10 = nI (x / 10 * 10) := (Int32.ofNat_mul (x / 10) 10).symm
  rw [e2, n_sub (by omega) (by omega)]
  exact ⟨by congr 1; omega, rfl⟩
section PWH
variable {g : Nat → Prop} {l : List Nat} {B h : Nat} {σ : MS}
theorem s_putWhole (hS : HS g l B h σ) {v n p : Nat} (hW : Wh σ v n) (h93 : σ.1 93 = nI p) (hp : p + 5 * n + 2 ≤ 12000) {L : Nat → Int32} (h1 : L 1 = nI v) : Tm (fun k => x_putWhole k 0 L σ) (PrO σ p (p + 5 * (n - 1) + 2)) := by
  obtain ⟨w1, w2, w3, w4, w5⟩ := hW
  -- the digits, the last one first
  have l11 : ∀ (i q : Nat) (N : Nat → Int32) (τ : MS), i ≤ 400 → N 3 = nI i - 1 → PrF σ τ → τ.1 93 = nI q → p ≤ q → q + i ≤ p + 5 * (n - 1) + 2 → Tm (fun k => x_putWhole k 11 N τ) (PrO σ p (p + 5 * (n - 1) + 2)) := by
    intro i
    induction i with
    | zero =>
      intro q N τ hi n3 hF t93 hpq hq
      refine Tm_suc (fun k => by rw [x_putWhole]) ?_
      rw [n3]
      refine Tm_ite (fun _ => ?_) (fun z => absurd (show nI 0 - 1 < 0 by decide) z)
      refine Tm_suc (fun k => by rw [x_putWhole]) ?_
      exact Tm_some ⟨hF, q, t93, hpq, by omega⟩
    | succ i ih =>
      intro q N τ hi n3 hF t93 hpq hq
      rw [show nI (i + 1) - 1 = nI i from n_sub (p := i + 1) (q := 1) (by omega) (by omega)] at n3
      refine Tm_suc (fun k => by rw [x_putWhole]) ?_
      rw [n3]
      refine Tm_ite (fun z => absurd ((n_lt (q := 0) (by omega) (by decide)).mp z) (by omega)) (fun _ => ?_)
      refine Tm_chk (n_in (by omega) (by omega)) ?_
      refine Tm_ob (s_put t93 (by omega) _) (fun r hr => ?_)
      exact ih (q + 1) _ r.2 (by omega) (by show nI i + (-1) = nI i - 1; exact (Int32.sub_eq_add_neg _ _).symm) (PrF_tr hF hr.1) hr.2.1 (by omega) (by omega)
  have l9 : ∀ (m : Nat) (N : Nat → Int32) (τ : MS), m ≤ 5 * (n - 1) + 1 → m ≤ 400 → N 1 = nI v → N 2 = nI m → PrF σ τ → τ.1 93 = nI p → Tm (fun k => x_putWhole k 9 N τ) (PrO σ p (p + 5 * (n - 1) + 2)) := fun m N τ hm hm4 n1 n2 hF t93 => by
    have l10 : ∀ (q : Nat) (τ : MS), PrF σ τ → τ.1 93 = nI q → p ≤ q → q ≤ p + 1 → Tm (fun k => x_putWhole k 10 N τ) (PrO σ p (p + 5 * (n - 1) + 2)) := fun q τ hF t93 h1 h2 => by
      refine Tm_suc (fun k => by rw [x_putWhole]) ?_
      rw [n2]
      exact l11 m q _ τ hm4 rfl hF t93 h1 (by omega)
    refine Tm_suc (fun k => by rw [x_putWhole]) ?_
    refine Tm_ob (s_signOf (PrF_HS hF hS) (m := v) (by omega) (by exact n1)) (fun r hr => ?_)
    rw [hr]
    refine Tm_ite (fun _ => l10 p τ hF t93 (Nat.le_refl _) (by omega)) (fun _ => ?_)
    refine Tm_ob (s_put t93 (by omega) _) (fun r3 hr3 => ?_)
    exact l10 (p + 1) r3.2 (PrF_tr hF hr3.1) hr3.2.1 (by omega) (Nat.le_refl _)
  -- digit after digit
  have l2 : ∀ (e a m : Nat) (N : Nat → Int32) (τ : MS), e + m = 5 * (n - 1) → a ≤ 64 → N 1 = nI v → N 2 = nI m → PrF σ τ → τ.1 93 = nI p → τ.1 84 = nI a → LM (τ.2.2 42) a → vl (τ.2.2 42) a < 10 ^ e → (a = 0 ∨ 1 ≤ e) → Tm (fun k => x_putWhole k 2 N τ) (PrO σ p (p + 5 * (n - 1) + 2)) := by
    intro e
    induction e with
    | zero =>
      intro a m N τ hm ha n1 n2 hF t93 t84 hLM hv h0
      have ha0 : a = 0 := by omega
      refine Tm_suc (fun k => by rw [x_putWhole]) ?_
      rw [t84, ha0]
      exact Tm_ite (fun _ => l9 m N τ (by omega) (by omega) n1 n2 hF t93) (fun q => absurd ((n_le0 (by decide)).mpr rfl) q)
    | succ e ih =>
      intro a m N τ hm ha n1 n2 hF t93 t84 hLM hv h0
      refine Tm_suc (fun k => by rw [x_putWhole]) ?_
      rw [t84]
      refine Tm_ite (fun _ => l9 m N τ (by omega) (by omega) n1 n2 hF t93) (fun za => ?_)
      have za : 1 ≤ a := by
        by_cases c : a = 0
        · exact absurd ((n_le0 (by omega)).mpr c) za
        · omega
      -- noughts at the top go
      have l7 : ∀ (b : Nat) (M : Nat → Int32) (υ : MS), b ≤ a → M 1 = nI v → M 2 = nI (m + 1) → PrF σ υ → υ.1 93 = nI p → υ.1 84 = nI b → LM (υ.2.2 42) b → vl (υ.2.2 42) b < 10 ^ e → Tm (fun k => x_putWhole k 7 M υ) (PrO σ p (p + 5 * (n - 1) + 2)) := by
        intro b
        induction b with
        | zero =>
          intro M υ hb m1 m2 hF2 u93 u84 hL2 hv2
          refine Tm_suc (fun k => by rw [x_putWhole]) ?_
          rw [u84]
          refine Tm_ite (fun _ => ?_) (fun q => absurd ((n_le0 (by decide)).mpr rfl) q)
          refine Tm_suc (fun k => by rw [x_putWhole]) ?_
          exact ih 0 (m + 1) M υ (by omega) (by decide) m1 m2 hF2 u93 u84 hL2 hv2 (Or.inl rfl)
        | succ b ihb =>
          intro M υ hb m1 m2 hF2 u93 u84 hL2 hv2
          refine Tm_suc (fun k => by rw [x_putWhole]) ?_
          rw [u84, show nI (b + 1) - 1 = nI b from n_sub (p := b + 1) (q := 1) (by omega) (by omega)]
          refine Tm_ite (fun q => absurd ((n_le0 (by omega)).mp q) (by omega)) (fun _ => ?_)
          refine Tm_chk (n_in (by omega) (by omega)) ?_
          rw [n_cl (p := b) (by omega)]
          refine Tm_ite (fun z => ?_) (fun z => ?_)
          · have v1 : vl (υ.2.2 42) (b + 1) = vl (υ.2.2 42) b + dg (υ.2.2 42) b * 65536 ^ b := rfl
            exact ihb M (mSc υ 84 (nI b)) (by omega) m1 m2 (PrF_tr hF2 (PrF_sc (Or.inl rfl))) u93 rfl (LM_mo hL2 (by omega)) (by show vl (υ.2.2 42) b < 10 ^ e; omega)
          · refine Tm_suc (fun k => by rw [x_putWhole]) ?_
            refine ih (b + 1) (m + 1) M υ (by omega) (by omega) m1 m2 hF2 u93 u84 hL2 hv2 (Or.inr ?_)
            have h1 := (vl_top hL2).mpr z
            have h2 := pow_pos16 b
            by_cases c : e = 0
            · rw [c] at hv2
              have hv2 : vl (υ.2.2 42) (b + 1) < 1 := hv2
              omega
            · omega
      -- by ten
      have l3 : ∀ (k c : Nat) (M : Nat → Int32) (υ : MS), k ≤ a → c ≤ 9 → M 1 = nI v → M 2 = nI m → M 3 = nI c → M 4 = nI k - 1 → PrF σ υ → υ.1 93 = nI p → υ.1 84 = nI a → LM (υ.2.2 42) a → vl (τ.2.2 42) a + 10 * vl (υ.2.2 42) k = vl (υ.2.2 42) k + 10 * vl (υ.2.2 42) a + c * 65536 ^ k → Tm (fun f => x_putWhole f 3 M υ) (PrO σ p (p + 5 * (n - 1) + 2)) := by
        intro k
        induction k with
        | zero =>
          intro c M υ hk hc m1 m2 m3 m4 hF2 u93 u84 hL2 he
          refine Tm_suc (fun k => by rw [x_putWhole]) ?_
          rw [m4]
          refine Tm_ite (fun _ => ?_) (fun z => absurd (show nI 0 - 1 < 0 by decide) z)
          refine Tm_suc (fun k => by rw [x_putWhole]) ?_
          rw [m2]
          refine Tm_chk (n_in (by omega) (by omega)) ?_
          rw [n_cl (p := m) (by omega)]
          show Tm (fun f => x_putWhole f 6 M (mAr υ 49 m (M 3))) _
          refine Tm_suc (fun k => by rw [x_putWhole]) ?_
          have q42 : (mAr υ 49 m (M 3)).2.2 42 = υ.2.2 42 := mAr_o (by decide)
          refine l7 a _ _ (Nat.le_refl _) m1 (by show M 2 + 1 = _; rw [m2, n_add1]) (PrF_tr hF2 (PrF_ar (Or.inr (Or.inr rfl)))) u93 u84 (by rw [q42]; exact hL2) ?_
          rw [q42]
          have h0 : vl (υ.2.2 42) 0 = 0 := rfl
          rw [h0] at he
          have hp10 : 10 ^ (e + 1) = 10 * 10 ^ e := by rw [Nat.pow_succ, Nat.mul_comm]
          have he : vl (τ.2.2 42) a + 10 * 0 = 0 + 10 * vl (υ.2.2 42) a + c * 1 := he
          omega
        | succ k ihk =>
          intro c M υ hk hc m1 m2 m3 m4 hF2 u93 u84 hL2 he
          rw [show nI (k + 1) - 1 = nI k from n_sub (p := k + 1) (q := 1) (by omega) (by omega)] at m4
          obtain ⟨x1, x2⟩ := LM_dg hL2 (i := k) (by omega)
          refine Tm_suc (fun k => by rw [x_putWhole]) ?_
          rw [m4, m3]
          refine Tm_ite (fun z => absurd ((n_lt (q := 0) (by omega) (by decide)).mp z) (by omega)) (fun _ => ?_)
          refine Tm_chk (n_in (by omega) (by omega)) ?_
          refine Tm_chk0 (by decide) ?_
          refine Tm_chk (n_in (by omega) (by omega)) ?_
          rw [n_cl (p := k) (by omega), x1, n_shl16 hc x2, (n_mod10 (x := c * 65536 + dg (υ.2.2 42) k) (by omega)).2]
          show Tm (fun f => x_putWhole f 4 (upd M 5 (nI (c * 65536 + dg (υ.2.2 42) k))) (mAr υ 42 k (nI ((c * 65536 + dg (υ.2.2 42) k) / 10)))) _
          refine Tm_suc (fun k => by rw [x_putWhole]) ?_
          refine Tm_chk0 (by decide) ?_
          have m5 : upd M 5 (nI (c * 65536 + dg (υ.2.2 42) k)) 5 = nI (c * 65536 + dg (υ.2.2 42) k) := upd_same
          rw [m5, (n_mod10 (x := c * 65536 + dg (υ.2.2 42) k) (by omega)).1]
          refine ihk ((c * 65536 + dg (υ.2.2 42) k) % 10) _ _ (by omega) (by omega) m1 m2 rfl (by show M 4 + (-1) = nI k - 1; rw [m4]; exact (Int32.sub_eq_add_neg _ _).symm) (PrF_tr hF2 (PrF_ar (Or.inl rfl))) u93 u84 (by rw [mAr_s]; exact LM_upd hL2 ⟨_, by omega, rfl⟩) ?_
          rw [mAr_s, vl_upd (Nat.le_refl _)]
          have hs := vl_set (f := υ.2.2 42) (i := k) (y := (c * 65536 + dg (υ.2.2 42) k) / 10) (by omega) a (by omega)
          have v1 : vl (υ.2.2 42) (k + 1) = vl (υ.2.2 42) k + dg (υ.2.2 42) k * 65536 ^ k := rfl
          rw [v1, Nat.pow_succ] at he
          generalize dg (υ.2.2 42) k = d at *
          generalize vl (upd (υ.2.2 42) k (nI ((c * 65536 + d) / 10))) a = V' at *
          have e2 : (c * 65536 + d) / 10 * 10 + (c * 65536 + d) % 10 = c * 65536 + d := by omega
          have e4 : ((c * 65536 + d) / 10 * 10 + (c * 65536 + d) % 10) * 65536 ^ k = (c * 65536 + d) * 65536 ^ k := by rw [e2]
          rw [Nat.add_mul, Nat.add_mul] at e4
          have e5 : c * 65536 * 65536 ^ k = c * (65536 ^ k * 65536) := by rw [Nat.mul_assoc, Nat.mul_comm 65536]
          have e6 : (c * 65536 + d) / 10 * 10 * 65536 ^ k = 10 * ((c * 65536 + d) / 10 * 65536 ^ k) := by rw [Nat.mul_comm _ 10, Nat.mul_assoc]
          rw [e5, e6] at e4
          omega
      rw [show nI a - 1 = nI a - 1 from rfl]
      refine l3 a 0 _ τ (Nat.le_refl _) (by decide) n1 n2 rfl rfl hF t93 t84 hLM ?_
      rw [Nat.zero_mul]; omega
  refine Tm_suc (fun k => by rw [x_putWhole]) ?_
  refine Tm_ob (s_loadA hS w1 w2 w3 w4 w5 (by exact h1)) (fun r hr => ?_)
  obtain ⟨_, p84, pA, q43, q85⟩ := hr
  have hF1 : PrF σ r.2 := ⟨fun j hj => q85 j (by omega), fun j hj => q43 j (by omega)⟩
  have r93 : r.2.1 93 = nI p := (q85 93 (by decide)).trans h93
  have hv : vl (r.2.2.2 42) (n - 1) < 10 ^ (5 * (n - 1)) := by
    refine Nat.lt_of_lt_of_le (vl_lt _ pA) ?_
    rw [Nat.pow_mul]
    exact Nat.pow_le_pow_left (by decide) _
  rw [p84]
  refine Tm_ite (fun z => ?_) (fun z => ?_)
  · have z := (n_eq0 (by omega)).mp z
    refine Tm_chk (by decide) ?_
    show Tm (fun k => x_putWhole k 1 (upd L 2 0) (mAr r.2 49 (0 : Int32).toNatClampNeg 0)) _
    refine Tm_suc (fun k => by rw [x_putWhole]) ?_
    refine Tm_suc (fun k => by rw [x_putWhole]) ?_
    refine Tm_ite (fun _ => ?_) (fun q => absurd ?_ q)
    · exact l9 1 _ _ (by omega) (by decide) h1 rfl (PrF_tr hF1 (PrF_ar (Or.inr (Or.inr rfl)))) r93
    · show r.2.1 84 ≤ 0
      rw [p84, z]; decide
  · have z : ¬ n - 1 = 0 := fun c => z (by rw [c]; rfl)
    exact l2 (5 * (n - 1)) (n - 1) 0 _ r.2 (by omega) (by omega) h1 rfl hF1 r93 p84 pA hv (Or.inr (by omega))
end PWH
end JnS107
section JnS108
/-! Values are printed (reference). -/
theorem xN_0 (k d b : Nat) (L : Nat → Int32) (σ : MS) : x_GN (k + 1) d 0 b L σ = s_putNumber (x_GN k) k d b L σ := rfl
theorem xP_0 (k d b : Nat) (L : Nat → Int32) (σ : MS) : x_GP (k + 1) d 0 b L σ = s_print (x_GP k) k d b L σ := rfl
theorem s_putNum : ∀ (e d x p : Nat) (σ : MS) (L : Nat → Int32), e ≤ d → x < 10 ^ (e + 1) → x < 2147483648 → σ.1 93 = nI p → p + e + 1 ≤ 12000 → L 1 = nI x → Tm (fun k => x_GN k d 0 0 L σ) (PrO σ p (p + e + 1))
  | e, d, x, p, σ, L, hed, hx, hx2, h93, hp, hL => by
    have l1 : ∀ (q : Nat) (τ : MS), PrF σ τ → τ.1 93 = nI q → p ≤ q → q ≤ p + e → Tm (fun k => x_GN k d 0 1 L τ) (PrO σ p (p + e + 1)) := fun q τ hF t93 h1 h2 => by
      refine Tm_suc (fun k => by rw [xN_0]) ?_
      refine Tm_chk0 (c := (10 : Int32) = 0) (by decide) ?_
      refine Tm_ob (s_put t93 (by omega) _) (fun r hr => ?_)
      exact Tm_some ⟨PrF_tr hF hr.1, q + 1, hr.2.1, by omega, by omega⟩
    refine Tm_suc (fun k => by rw [xN_0]) ?_
    show Tm (fun k => if L 1 ≤ 9 then x_GN k d 0 1 L σ else (if (10 : Int32) = 0 then none else od d (fun e3 => ob (x_GN k e3 0 0 (upd (fun _ => 0) 1 (L 1 / 10)) σ) (fun r3 => x_GN k d 0 1 L r3.2)))) _
    rw [hL]
    refine Tm_ite (fun _ => l1 p σ PrF_rf h93 (Nat.le_refl _) (by omega)) (fun z => ?_)
    have z : 9 < x := by
      by_cases c : x ≤ 9
      · exact absurd ((n_le (q := 9) (by omega) (by decide)).mpr c) z
      · omega
    refine Tm_chk0 (c := (10 : Int32) = 0) (by decide) ?_
    rw [(n_mod10 hx2).2]
    match e, d, hed, hx, hp, l1 with
    | 0, d, _, hx, _, _ => exact absurd hx (by omega)
    | e + 1, 0, h, _, _, _ => exact absurd h (by omega)
    | e + 1, d + 1, hed, hx, hp, l1 =>
      show Tm (fun k => ob (x_GN k d 0 0 (upd (fun _ => 0) 1 (nI (x / 10))) σ) (fun r3 => x_GN k (d + 1) 0 1 L r3.2)) _
      have hp10 : 10 ^ (e + 1 + 1) = 10 * 10 ^ (e + 1) := by rw [Nat.pow_succ, Nat.mul_comm]
      refine Tm_ob (s_putNum e d (x / 10) p σ _ (by omega) (by omega) (by omega) h93 (by omega) rfl) (fun r hr => ?_)
      obtain ⟨hF, q, h1, h2, h3⟩ := hr
      exact l1 q r.2 hF h1 h2 (by omega)
theorem s_putTruth {σ : MS} {p : Nat} (h93 : σ.1 93 = nI p) (hp : p + 5 ≤ 12000) (L : Nat → Int32) : Tm (fun k => x_putTruth k 0 L σ) (PrO σ p (p + 5)) := by
  have l9 : ∀ (q : Nat) (N : Nat → Int32) (τ : MS), PrF σ τ → τ.1 93 = nI q → p ≤ q → q ≤ p + 5 → Tm (fun k => x_putTruth k 9 N τ) (PrO σ p (p + 5)) := fun q N τ hF t93 h1 h2 => by
    refine Tm_suc (fun k => by rw [x_putTruth]) ?_
    exact Tm_some ⟨hF, q, t93, h1, h2⟩
  have l8 : ∀ (q : Nat) (N : Nat → Int32) (τ : MS), PrF σ τ → τ.1 93 = nI q → p ≤ q → q ≤ p + 3 → Tm (fun k => x_putTruth k 8 N τ) (PrO σ p (p + 5)) := fun q N τ hF t93 h1 h2 => by
    refine Tm_suc (fun k => by rw [x_putTruth]) ?_
    refine Tm_ob (s_put t93 (by omega) _) (fun r hr => ?_)
    refine Tm_ite (fun _ => ?_) (fun _ => l9 (q + 1) N r.2 (PrF_tr hF hr.1) hr.2.1 (by omega) (by omega))
    refine Tm_ob (s_put hr.2.1 (by omega) _) (fun r2 hr2 => ?_)
    exact l9 (q + 1 + 1) N r2.2 (PrF_tr hF (PrF_tr hr.1 hr2.1)) hr2.2.1 (by omega) (by omega)
  have l6 : ∀ (q : Nat) (N : Nat → Int32) (τ : MS), PrF σ τ → τ.1 93 = nI q → p ≤ q → q ≤ p + 2 → Tm (fun k => x_putTruth k 6 N τ) (PrO σ p (p + 5)) := fun q N τ hF t93 h1 h2 => by
    refine Tm_suc (fun k => by rw [x_putTruth]) ?_
    refine Tm_ob (s_put t93 (by omega) _) (fun r hr => ?_)
    refine Tm_ite (fun _ => ?_) (fun _ => l8 (q + 1) _ r.2 (PrF_tr hF hr.1) hr.2.1 (by omega) (by omega))
    refine Tm_suc (fun k => by rw [x_putTruth]) ?_
    exact l8 (q + 1) _ r.2 (PrF_tr hF hr.1) hr.2.1 (by omega) (by omega)
  have l4 : ∀ (q : Nat) (N : Nat → Int32) (τ : MS), PrF σ τ → τ.1 93 = nI q → p ≤ q → q ≤ p + 1 → Tm (fun k => x_putTruth k 4 N τ) (PrO σ p (p + 5)) := fun q N τ hF t93 h1 h2 => by
    refine Tm_suc (fun k => by rw [x_putTruth]) ?_
    refine Tm_ob (s_put t93 (by omega) _) (fun r hr => ?_)
    refine Tm_ite (fun _ => ?_) (fun _ => l6 (q + 1) _ r.2 (PrF_tr hF hr.1) hr.2.1 (by omega) (by omega))
    refine Tm_suc (fun k => by rw [x_putTruth]) ?_
    exact l6 (q + 1) _ r.2 (PrF_tr hF hr.1) hr.2.1 (by omega) (by omega)
  have l2 : ∀ N : Nat → Int32, Tm (fun k => x_putTruth k 2 N σ) (PrO σ p (p + 5)) := fun N => by
    refine Tm_suc (fun k => by rw [x_putTruth]) ?_
    refine Tm_ob (s_put h93 (by omega) _) (fun r hr => ?_)
    refine Tm_ite (fun _ => ?_) (fun _ => l4 (p + 1) _ r.2 hr.1 hr.2.1 (by omega) (by omega))
    refine Tm_suc (fun k => by rw [x_putTruth]) ?_
    exact l4 (p + 1) _ r.2 hr.1 hr.2.1 (by omega) (by omega)
  refine Tm_suc (fun k => by rw [x_putTruth]) ?_
  refine Tm_ite (fun _ => ?_) (fun _ => l2 _)
  refine Tm_suc (fun k => by rw [x_putTruth]) ?_
  exact l2 _
section PRI
variable {g : Nat → Prop} {l : List Nat} {B h : Nat}
theorem smS_mono {H : Nat → Int32} {v k n : Nat} (h : k ≤ n) : smS H v k ≤ smS H v n := by
  induction n with
  | zero => rw [show k = 0 by omega]; exact Nat.le_refl _
  | succ n ih =>
    by_cases e : k = n + 1
    · rw [e]; exact Nat.le_refl _
    · have := ih (by omega)
      have v : smS H v (n + 1) = smS H v n + szN H (H (v + 4 + n)).toNatClampNeg := rfl
      omega
/-- a value: no more bytes than ten times its size -/
theorem s_prt1 {σ : MS} (hS : HS g l B h σ) {d : Nat} (hrec : ∀ e, d = e + 1 → ∀ (τ : MS) (a p : Nat) (L : Nat → Int32), PrF σ τ → (a < 3 ∨ g a) → htN (σ.2.2 28) a ≤ e → τ.1 93 = nI p → p + 10 * szN (σ.2.2 28) a ≤ 12000 → L 1 = nI a → Tm (fun k => x_GP k e 0 0 L τ) (PrO τ p (p + 10 * szN (σ.2.2 28) a - 2)))
    {τ : MS} {a p : Nat} {L : Nat → Int32} (hF : PrF σ τ) (ha : a < 3 ∨ g a) (hd : htN (σ.2.2 28) a ≤ d) (h93 : τ.1 93 = nI p) (hp : p + 10 * szN (σ.2.2 28) a ≤ 12000) (h1 : L 1 = nI a) : Tm (fun k => x_GP k d 0 0 L τ) (PrO τ p (p + 10 * szN (σ.2.2 28) a - 2)) := by
  have hSt := PrF_HS hF hS
  have hB := HS_b hS
  have ba := HS_vb hS ha
  have hs1 := (szN_b hS ha).1
  have t28 : τ.2.2 28 = σ.2.2 28 := hF.2 28 (by decide)
  have l18 : ∀ (q : Nat) (N : Nat → Int32) (υ : MS), PrF τ υ → υ.1 93 = nI q → p ≤ q → q + 2 ≤ p + 10 * szN (σ.2.2 28) a → Tm (fun k => x_GP k d 0 18 N υ) (PrO τ p (p + 10 * szN (σ.2.2 28) a - 2)) := fun q N υ hFu u93 h1 h2 => by
    refine Tm_suc (fun k => by rw [xP_0]) ?_
    exact Tm_some ⟨hFu, q, u93, h1, by omega⟩
  refine Tm_suc (fun k => by rw [xP_0]) ?_
  refine Tm_ob (s_kind hSt ha (by exact h1)) (fun r0 hr0 => ?_)
  rw [hr0, t28]
  by_cases c0 : a = 0
  · have k0 : kdN (σ.2.2 28) a = 0 := by unfold kdN; rw [if_pos c0]
    rw [k0]
    refine Tm_ite (fun _ => ?_) (fun z => absurd rfl z)
    refine Tm_ob (s_put h93 (by omega) _) (fun r1 hr1 => ?_)
    refine Tm_ob (s_put hr1.2.1 (by omega) _) (fun r2 hr2 => ?_)
    exact l18 (p + 1 + 1) _ r2.2 (PrF_tr hr1.1 hr2.1) hr2.2.1 (by omega) (by omega)
  by_cases c3 : a < 3
  · have k1 : kdN (σ.2.2 28) a = 1 := by unfold kdN; rw [if_neg c0, if_pos c3]
    rw [k1]
    refine Tm_ite (fun z => absurd z (show ¬ nI 1 = 0 by decide)) (fun _ => ?_)
    have l3 : ∀ N : Nat → Int32, Tm (fun k => x_GP k d 0 3 N τ) (PrO τ p (p + 10 * szN (σ.2.2 28) a - 2)) := fun N => by
      refine Tm_suc (fun k => by rw [xP_0]) ?_
      refine Tm_ob (s_putTruth h93 (by omega) _) (fun r1 hr1 => ?_)
      obtain ⟨hF1, q, e1, e2, e3⟩ := hr1
      exact l18 q _ r1.2 hF1 e1 e2 (by omega)
    refine Tm_suc (fun k => by rw [xP_0]) ?_
    refine Tm_ite (c := L 1 = 2) (fun _ => l3 _) (fun _ => ?_)
    refine Tm_suc (fun k => by rw [xP_0]) ?_
    exact l3 _
  obtain ⟨k, n, s, u, g1, g2, g3⟩ := HS_at hS (ha.resolve_left c3)
  have hk := g1.2.2.2.2.1
  have hsz : szN (σ.2.2 28) a = s := by
    unfold szN
    rw [if_neg c3, g1.2.2.1, n_cl (by have := g1.2.2.2.2.2.1; omega)]
  have hht : htN (σ.2.2 28) a = u := by
    unfold htN
    rw [if_neg c3, g1.2.2.2.1, n_cl (by have := g1.2.2.2.2.2.2.1; omega)]
  have hkd : kdN (σ.2.2 28) a = k := by
    unfold kdN
    rw [if_neg c0, if_neg c3, g1.1, n_cl (by omega)]
  have hn := g1.2.2.2.2.2.2.2.1
  rw [hsz] at hp l18 ⊢
  rw [hht] at hd
  rw [hkd]
  refine Tm_ite (fun z => absurd ((n_eq0 (by omega)).mp z) (by omega)) (fun _ => ?_)
  have m1 : upd L 3 (nI k) 1 = nI a := h1
  have m3 : upd L 3 (nI k) 3 = nI k := rfl
  have m2 : upd L 3 (nI k) 2 = L 2 := rfl
  generalize upd L 3 (nI k) = N at m1 m2 m3
  refine Tm_suc (fun k => by rw [xP_0]) ?_
  show Tm (fun f => if N 3 = 1 then (if N 1 = 2 then x_GP f d 0 3 (upd N 100 1) τ else x_GP f d 0 2 N τ) else x_GP f d 0 4 N τ) _
  rw [m3]
  refine Tm_ite (fun z => absurd ((n_eq (q := 1) (by omega) (by decide)).mp z) (by omega)) (fun _ => ?_)
  refine Tm_suc (fun k => by rw [xP_0]) ?_
  show Tm (fun f => if N 3 = 2 then ob (x_putWhole f 0 (upd (fun _ => 0) 1 (N 1)) τ) (fun r2 => x_GP f d 0 18 N r2.2) else x_GP f d 0 5 N τ) _
  rw [m3, m1]
  refine Tm_ite (fun z => ?_) (fun z2 => ?_)
  · have z := (n_eq (q := 2) (by omega) (by decide)).mp z
    obtain ⟨w1, w2, w3, w4⟩ := g1.2.2.2.2.2.2.2.2.1 z
    have hW : Wh τ a n := by
      unfold Wh; rw [t28]; exact ⟨g1.2.1, w1, w2, by omega, w4⟩
    refine Tm_ob (s_putWhole hSt hW h93 (by omega) rfl) (fun r1 hr1 => ?_)
    obtain ⟨hF1, q, e1, e2, e3⟩ := hr1
    exact l18 q _ r1.2 hF1 e1 e2 (by omega)
  have z2 : ¬ k = 2 := fun c => z2 (by rw [c]; rfl)
  refine Tm_suc (fun k => by rw [xP_0]) ?_
  show Tm (fun f => if N 3 = 3 then ob (x_put f 0 (upd (fun _ => 0) 1 35) τ) (fun r2 => if ¬ (N 1 + 4 < 0 ∨ 1740000 ≤ (N 1 + 4).toNatClampNeg) then ob (x_putNumber f 0 (upd (fun _ => 0) 1 (r2.2.2.2 28 (N 1 + 4).toNatClampNeg)) r2.2) (fun r4 => x_GP f d 0 18 N r4.2) else none) else x_GP f d 0 6 N τ) _
  rw [m3, m1]
  refine Tm_ite (fun z => ?_) (fun z3 => ?_)
  · have z := (n_eq (q := 3) (by omega) (by decide)).mp z
    obtain ⟨w1, w2, x, w3, w4⟩ := g1.2.2.2.2.2.2.2.2.2.1 z
    refine Tm_ob (s_put h93 (by omega) _) (fun r1 hr1 => ?_)
    rw [show nI a + 4 = nI (a + 4) from n_add (q := 4) (by omega)]
    refine Tm_chk (n_in (by omega) (by omega)) ?_
    rw [n_cl (p := a + 4) (by omega), hr1.1.2 28 (by decide), t28, w4]
    refine Tm_ob (show Tm (fun k => x_putNumber k 0 (upd (fun _ => 0) 1 (nI x)) r1.2) (PrO r1.2 (p + 1) (p + 1 + 6 + 1)) from ?_) (fun r2 hr2 => ?_)
    · exact s_putNum 6 12 x (p + 1) r1.2 _ (by decide) (by omega) (by omega) hr1.2.1 (by omega) rfl
    · obtain ⟨hF1, q, e1, e2, e3⟩ := hr2
      exact l18 q _ r2.2 (PrF_tr hr1.1 hF1) e1 (by omega) (by omega)
  have z3 : ¬ k = 3 := fun c => z3 (by rw [c]; rfl)
  refine Tm_suc (fun k => by rw [xP_0]) ?_
  show Tm (fun f => if N 3 = 4 then (if N 2 = 0 then ob (x_put f 0 (upd (fun _ => 0) 1 34) τ) (fun r3 => x_GP f d 0 7 N r3.2) else x_GP f d 0 7 N τ) else x_GP f d 0 10 N τ) _
  rw [m3]
  refine Tm_ite (fun z => ?_) (fun z4 => ?_)
  · -- a string
    have z := (n_eq (q := 4) (by omega) (by decide)).mp z
    have hs4 := g1.2.2.2.2.2.2.2.2.2.2.1 z
    have l9 : ∀ (q : Nat) (M : Nat → Int32) (υ : MS), PrF τ υ → υ.1 93 = nI q → p ≤ q → q ≤ p + 1 + n → Tm (fun f => x_GP f d 0 9 M υ) (PrO τ p (p + 10 * s - 2)) := fun q M υ hFu u93 h1 h2 => by
      refine Tm_suc (fun k => by rw [xP_0]) ?_
      refine Tm_ite (c := M 2 = 0) (fun _ => ?_) (fun _ => l18 q M υ hFu u93 h1 (by omega))
      refine Tm_ob (s_put u93 (by omega) _) (fun r hr => ?_)
      exact l18 (q + 1) M r.2 (PrF_tr hFu hr.1) hr.2.1 (by omega) (by omega)
    have l8 : ∀ (j i q : Nat) (M : Nat → Int32) (υ : MS), j + i = n → M 1 = nI a → M 4 = nI i → PrF τ υ → υ.1 93 = nI q → p ≤ q → q ≤ p + 1 + i → Tm (fun f => x_GP f d 0 8 M υ) (PrO τ p (p + 10 * s - 2)) := by
      intro j
      induction j with
      | zero =>
        intro i q M υ hi q1 q4 hFu u93 h1 h2
        refine Tm_suc (fun k => by rw [xP_0]) ?_
        show Tm (fun f => if ¬ (M 1 + 1 < 0 ∨ 1740000 ≤ (M 1 + 1).toNatClampNeg) then (if υ.2.2 28 (M 1 + 1).toNatClampNeg ≤ M 4 then x_GP f d 0 9 M υ else (if ¬ (M 1 + 4 + M 4 < 0 ∨ 1740000 ≤ (M 1 + 4 + M 4).toNatClampNeg) then ob (x_put f 0 (upd (fun _ => 0) 1 (υ.2.2 28 (M 1 + 4 + M 4).toNatClampNeg)) υ) (fun r4 => x_GP f d 0 8 (upd M 4 (M 4 + 1)) r4.2) else none)) else none) _
        rw [q1, q4, n_add1]
        refine Tm_chk (n_in (by omega) (by omega)) ?_
        rw [n_cl (p := a + 1) (by omega), hFu.2 28 (by decide), t28, g1.2.1]
        exact Tm_ite (fun _ => l9 q M υ hFu u93 h1 (by omega)) (fun w => absurd ((n_le (by omega) (by omega)).mpr (by omega)) w)
      | succ j ih =>
        intro i q M υ hi q1 q4 hFu u93 h1 h2
        refine Tm_suc (fun k => by rw [xP_0]) ?_
        show Tm (fun f => if ¬ (M 1 + 1 < 0 ∨ 1740000 ≤ (M 1 + 1).toNatClampNeg) then (if υ.2.2 28 (M 1 + 1).toNatClampNeg ≤ M 4 then x_GP f d 0 9 M υ else (if ¬ (M 1 + 4 + M 4 < 0 ∨ 1740000 ≤ (M 1 + 4 + M 4).toNatClampNeg) then ob (x_put f 0 (upd (fun _ => 0) 1 (υ.2.2 28 (M 1 + 4 + M 4).toNatClampNeg)) υ) (fun r4 => x_GP f d 0 8 (upd M 4 (M 4 + 1)) r4.2) else none)) else none) _
        rw [q1, q4, n_add1, n_add1, show nI a + 4 = nI (a + 4) from n_add (q := 4) (by omega), n_add (by omega)]
        refine Tm_chk (n_in (by omega) (by omega)) ?_
        rw [n_cl (p := a + 1) (by omega), hFu.2 28 (by decide), t28, g1.2.1]
        refine Tm_ite (fun w => absurd ((n_le (by omega) (by omega)).mp w) (by omega)) (fun _ => ?_)
        refine Tm_chk (n_in (by omega) (by omega)) ?_
        refine Tm_ob (s_put u93 (by omega) _) (fun r hr => ?_)
        exact ih (i + 1) (q + 1) _ r.2 (by omega) q1 rfl (PrF_tr hFu hr.1) hr.2.1 (by omega) (by omega)
    have l7 : ∀ (q : Nat) (υ : MS), PrF τ υ → υ.1 93 = nI q → p ≤ q → q ≤ p + 1 → Tm (fun f => x_GP f d 0 7 N υ) (PrO τ p (p + 10 * s - 2)) := fun q υ hFu u93 h1 h2 => by
      refine Tm_suc (fun k => by rw [xP_0]) ?_
      exact l8 n 0 q _ υ (by omega) m1 rfl hFu u93 h1 (by omega)
    refine Tm_ite (fun _ => ?_) (fun _ => l7 p τ PrF_rf h93 (Nat.le_refl _) (by omega))
    refine Tm_ob (s_put h93 (by omega) _) (fun r hr => ?_)
    exact l7 (p + 1) r.2 hr.1 hr.2.1 (by omega) (by omega)
  -- a row
  have z4 : ¬ k = 4 := fun c => z4 (by rw [c]; rfl)
  obtain ⟨r1, r2⟩ := g1.2.2.2.2.2.2.2.2.2.2.2 (by omega)
  have l17 : ∀ (q : Nat) (M : Nat → Int32) (υ : MS), PrF τ υ → υ.1 93 = nI q → p ≤ q → q + 3 ≤ p + 10 * s → Tm (fun f => x_GP f d 0 17 M υ) (PrO τ p (p + 10 * s - 2)) := fun q M υ hFu u93 h1 h2 => by
    refine Tm_suc (fun k => by rw [xP_0]) ?_
    refine Tm_ob (s_put u93 (by omega) _) (fun r hr => ?_)
    exact l18 (q + 1) M r.2 (PrF_tr hFu hr.1) hr.2.1 (by omega) (by omega)
  have l15 : ∀ (q : Nat) (M : Nat → Int32) (υ : MS), PrF τ υ → υ.1 93 = nI q → p ≤ q → q + 3 ≤ p + 10 * s → Tm (fun f => x_GP f d 0 15 M υ) (PrO τ p (p + 10 * s - 2)) := fun q M υ hFu u93 h1 h2 => by
    refine Tm_suc (fun k => by rw [xP_0]) ?_
    refine Tm_ite (c := M 3 = 6) (fun _ => l17 q _ υ hFu u93 h1 h2) (fun _ => ?_)
    refine Tm_suc (fun k => by rw [xP_0]) ?_
    exact l17 q _ υ hFu u93 h1 h2
  have l13 : ∀ (j i q : Nat) (M : Nat → Int32) (υ : MS), j + i = n → M 1 = nI a → M 4 = nI i → PrF τ υ → υ.1 93 = nI q → p ≤ q → q ≤ p + 1 + 10 * smS (σ.2.2 28) a i → Tm (fun f => x_GP f d 0 13 M υ) (PrO τ p (p + 10 * s - 2)) := by
    intro j
    induction j with
    | zero =>
      intro i q M υ hi q1 q4 hFu u93 h1 h2
      have hi : i = n := by omega
      subst hi
      refine Tm_suc (fun k => by rw [xP_0]) ?_
      show Tm (fun f => if ¬ (M 1 + 1 < 0 ∨ 1740000 ≤ (M 1 + 1).toNatClampNeg) then (if υ.2.2 28 (M 1 + 1).toNatClampNeg ≤ M 4 then x_GP f d 0 15 M υ else (if M 4 ≤ 0 then x_GP f d 0 14 M υ else ob (x_put f 0 (upd (fun _ => 0) 1 44) υ) (fun r4 => ob (x_put f 0 (upd (fun _ => 0) 1 32) r4.2) (fun r5 => x_GP f d 0 14 M r5.2)))) else none) _
      rw [q1, q4, n_add1]
      refine Tm_chk (n_in (by omega) (by omega)) ?_
      rw [n_cl (p := a + 1) (by omega), hFu.2 28 (by decide), t28, g1.2.1]
      exact Tm_ite (fun _ => l15 q M υ hFu u93 h1 (by omega)) (fun w => absurd ((n_le (by omega) (by omega)).mpr (by omega)) w)
    | succ j ih =>
      intro i q M υ hi q1 q4 hFu u93 h1 h2
      obtain ⟨x, x1, x2, x3⟩ := r2 i (by omega)
      have hxb := HS_vb hS x2
      have v1 : smS (σ.2.2 28) a (i + 1) = smS (σ.2.2 28) a i + szN (σ.2.2 28) x := by
        show smS (σ.2.2 28) a i + szN (σ.2.2 28) (σ.2.2 28 (a + 4 + i)).toNatClampNeg = _
        rw [x1, n_cl (by omega)]
      have v2 := smS_mono (H := σ.2.2 28) (v := a) (show i + 1 ≤ n by omega)
      have hsx := (szN_b hS x2).1
      obtain ⟨e, he⟩ : ∃ e, d = e + 1 := ⟨d - 1, by omega⟩
      have l14 : ∀ (q' : Nat) (υ : MS), PrF τ υ → υ.1 93 = nI q' → p ≤ q' → q' ≤ p + 1 + 10 * smS (σ.2.2 28) a i + 2 → Tm (fun f => x_GP f d 0 14 M υ) (PrO τ p (p + 10 * s - 2)) := fun q' υ hFu u93 h1 h2 => by
        refine Tm_suc (fun k => by rw [xP_0]) ?_
        show Tm (fun f => if ¬ (M 1 + 4 + M 4 < 0 ∨ 1740000 ≤ (M 1 + 4 + M 4).toNatClampNeg) then od d (fun e2 => ob (x_GP f e2 0 0 (upd (upd (fun _ => 0) 1 (υ.2.2 28 (M 1 + 4 + M 4).toNatClampNeg)) 2 0) υ) (fun r2 => x_GP f d 0 13 (upd M 4 (M 4 + 1)) r2.2)) else none) _
        rw [q1, q4, show nI a + 4 = nI (a + 4) from n_add (q := 4) (by omega), n_add (by omega)]
        refine Tm_chk (n_in (by omega) (by omega)) ?_
        rw [n_cl (p := a + 4 + i) (by omega), hFu.2 28 (by decide), t28, x1]
        have hc := hrec e he υ x q' (upd (upd (fun _ => 0) 1 (nI x)) 2 0) (PrF_tr hF hFu) x2 (by omega) u93 (by omega) rfl
        rw [he]
        show Tm (fun f => ob (x_GP f e 0 0 (upd (upd (fun _ => 0) 1 (nI x)) 2 0) υ) (fun r2 => x_GP f (e + 1) 0 13 (upd M 4 (nI i + 1)) r2.2)) _
        refine Tm_ob hc (fun r2 hr2 => ?_)
        obtain ⟨hF1, q2, e1, e2, e3⟩ := hr2
        rw [← he]
        exact ih (i + 1) q2 _ r2.2 (by omega) q1 (by show nI i + 1 = _; rw [n_add1]) (PrF_tr hFu hF1) e1 (by omega) (by omega)
      refine Tm_suc (fun k => by rw [xP_0]) ?_
      show Tm (fun f => if ¬ (M 1 + 1 < 0 ∨ 1740000 ≤ (M 1 + 1).toNatClampNeg) then (if υ.2.2 28 (M 1 + 1).toNatClampNeg ≤ M 4 then x_GP f d 0 15 M υ else (if M 4 ≤ 0 then x_GP f d 0 14 M υ else ob (x_put f 0 (upd (fun _ => 0) 1 44) υ) (fun r4 => ob (x_put f 0 (upd (fun _ => 0) 1 32) r4.2) (fun r5 => x_GP f d 0 14 M r5.2)))) else none) _
      rw [q1, q4, n_add1]
      refine Tm_chk (n_in (by omega) (by omega)) ?_
      rw [n_cl (p := a + 1) (by omega), hFu.2 28 (by decide), t28, g1.2.1]
      refine Tm_ite (fun w => absurd ((n_le (by omega) (by omega)).mp w) (by omega)) (fun _ => ?_)
      refine Tm_ite (fun _ => l14 q υ hFu u93 h1 (by omega)) (fun _ => ?_)
      refine Tm_ob (s_put u93 (by omega) _) (fun r4 hr4 => ?_)
      refine Tm_ob (s_put hr4.2.1 (by omega) _) (fun r5 hr5 => ?_)
      exact l14 (q + 1 + 1) r5.2 (PrF_tr hFu (PrF_tr hr4.1 hr5.1)) hr5.2.1 (by omega) (by omega)
  have l12 : ∀ M : Nat → Int32, M 1 = nI a → Tm (fun f => x_GP f d 0 12 M τ) (PrO τ p (p + 10 * s - 2)) := fun M q1 => by
    refine Tm_suc (fun k => by rw [xP_0]) ?_
    refine Tm_ob (s_put h93 (by omega) _) (fun r hr => ?_)
    exact l13 n 0 (p + 1) _ r.2 (by omega) q1 rfl hr.1 hr.2.1 (by omega) (by show p + 1 ≤ p + 1 + 10 * 0; omega)
  refine Tm_suc (fun k => by rw [xP_0]) ?_
  refine Tm_ite (c := N 3 = 6) (fun _ => l12 _ m1) (fun _ => ?_)
  refine Tm_suc (fun k => by rw [xP_0]) ?_
  exact l12 _ m1
theorem s_prtd {σ : MS} (hS : HS g l B h σ) : ∀ (d : Nat) (τ : MS) (a p : Nat) (L : Nat → Int32), PrF σ τ → (a < 3 ∨ g a) → htN (σ.2.2 28) a ≤ d → τ.1 93 = nI p → p + 10 * szN (σ.2.2 28) a ≤ 12000 → L 1 = nI a → Tm (fun k => x_GP k d 0 0 L τ) (PrO τ p (p + 10 * szN (σ.2.2 28) a - 2))
  | 0, τ, a, p, L, hF, ha, hd, h93, hp, h1 => s_prt1 hS (fun e he => by omega) hF ha hd h93 hp h1
  | d + 1, τ, a, p, L, hF, ha, hd, h93, hp, h1 => s_prt1 hS (fun e he => (Nat.succ.inj he) ▸ s_prtd hS d) hF ha hd h93 hp h1
/-- a value is printed -/
theorem s_printV {σ : MS} (hS : HS g l B h σ) {a p : Nat} {L : Nat → Int32} (ha : a < 3 ∨ g a) (h93 : σ.1 93 = nI p) (hp : p + 10 * szN (σ.2.2 28) a ≤ 12000) (h1 : L 1 = nI a) : Tm (fun k => x_print k 0 L σ) (PrO σ p (p + 10 * szN (σ.2.2 28) a - 2)) := s_prtd hS 40 σ a p L PrF_rf ha (by have := (szN_b hS ha).2.2; omega) h93 hp h1
end PRI
end JnS108
