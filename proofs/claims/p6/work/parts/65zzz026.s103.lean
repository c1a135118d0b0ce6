/-! Wholes as numbers; powers (reference). -/
section INO
variable {g : Nat → Prop} {l : List Nat} {B h t : Nat} {σ : MS}
theorem w_le {x y : Int64} : x ≤ y ↔ x.toInt ≤ y.toInt := Int64.le_iff_toInt_le
theorem w_lt {x y : Int64} : x < y ↔ x.toInt < y.toInt := Int64.lt_iff_toInt_lt
theorem w_cmp {x y : Int64} : nbCmp x y ≤ 0 ↔ x.toInt ≤ y.toInt := by
  unfold nbCmp
  by_cases h : y < x
  · rw [if_pos h]
    have h := w_lt.mp h
    exact ⟨fun z => absurd z (by decide), fun z => absurd z (by omega)⟩
  · rw [if_neg h]
    have h2 : x.toInt ≤ y.toInt := by
      by_cases z : y.toInt < x.toInt
      · exact absurd (w_lt.mpr z) h
      · omega
    by_cases e : x = y
    · rw [if_pos e]; exact ⟨fun _ => h2, fun _ => by decide⟩
    · rw [if_neg e]; exact ⟨fun _ => h2, fun _ => by decide⟩
/-- sixteen bits more -/
theorem w_more {x : Int64} {d : Nat} (h0 : 0 ≤ x.toInt) (h1 : x.toInt < 2147483648) (hd : d ≤ 65535) : 0 ≤ ((x <<< ((16 : Int32).toInt64 &&& 63)) ||| (nI d).toInt64).toInt := by
  have hx : x.toBitVec.toNat < 2 ^ 31 := by
    have e : x.toBitVec.toInt = x.toInt := rfl
    rw [BitVec.toInt_eq_toNat_cond] at e
    have := x.toBitVec.isLt
    split at e <;> omega
  have hd2 : (nI d).toInt64.toBitVec.toNat = d := by
    have e : ((nI d).toInt64.toBitVec).toInt = d := w_int (by omega)
    rw [BitVec.toInt_eq_toNat_cond] at e
    have := (nI d).toInt64.toBitVec.isLt
    split at e <;> omega
  have hs : (x <<< ((16 : Int32).toInt64 &&& 63)).toBitVec.toNat = x.toBitVec.toNat * 65536 := by
    show (x.toBitVec <<< (((16 : Int32).toInt64 &&& 63).toBitVec.smod 64)).toNat = _
    rw [BitVec.shiftLeft_eq', BitVec.toNat_shiftLeft, show (((16 : Int32).toInt64 &&& 63).toBitVec.smod 64).toNat = 16 from by decide, Nat.shiftLeft_eq]
    show x.toBitVec.toNat * 65536 % 2 ^ 64 = _
    rw [Nat.mod_eq_of_lt (by omega)]
  show 0 ≤ ((x <<< ((16 : Int32).toInt64 &&& 63)) ||| (nI d).toInt64).toBitVec.toInt
  have hn : ((x <<< ((16 : Int32).toInt64 &&& 63)) ||| (nI d).toInt64).toBitVec.toNat < 2 ^ 47 := by
    rw [Int64.toBitVec_or, BitVec.toNat_or, hs, hd2]
    exact Nat.or_lt_two_pow (by omega) (by omega)
  rw [BitVec.toInt_eq_toNat_cond, if_pos (by omega)]
  omega
theorem s_intOf {v n b : Nat} (hS : HS g l B h σ) (hW : Wh σ v n) (hb : b ≤ 2147483646) {L : Nat → Int32} {J : Nat → Int64} (h1 : L 1 = nI v) (h2 : L 2 = nI b) : Tm (fun k => x_intOf k 0 L J σ) (fun r => r.2 = σ ∧ ∃ y, y ≤ b + 1 ∧ (r.1 = nI y ∨ r.1 = - nI y) ∧ (0 ≤ σ.2.2 28 (v + 4) → r.1 = nI y)) := by
  obtain ⟨w1, w2, w3, w4, w5⟩ := hW
  have wb : (nI b).toInt64.toInt = b := w_int (by omega)
  have l6 : ∀ (N : Nat → Int32) (K : Nat → Int64) (y : Nat), y ≤ b + 1 → N 1 = nI v → N 100 = nI y → Tm (fun k => x_intOf k 6 N K σ) (fun r => r.2 = σ ∧ ∃ y, y ≤ b + 1 ∧ (r.1 = nI y ∨ r.1 = - nI y) ∧ (0 ≤ σ.2.2 28 (v + 4) → r.1 = nI y)) := fun N K y hy n1 n100 => by
    refine Tm_suc (fun k => by rw [x_intOf]) ?_
    refine Tm_ob (s_signOf hS (m := v) (by omega) (by exact n1)) (fun r hr => ?_)
    rw [hr]
    refine Tm_ite (fun _ => ?_) (fun z => ?_)
    · refine Tm_suc (fun k => by rw [x_intOf]) ?_
      refine Tm_suc (fun k => by rw [x_intOf]) ?_
      exact Tm_some ⟨rfl, y, hy, Or.inl n100, fun _ => n100⟩
    · refine Tm_suc (fun k => by rw [x_intOf]) ?_
      refine Tm_some ⟨rfl, y, hy, Or.inr ?_, fun w => absurd w z⟩
      show - N 100 = _
      rw [n100]
  have l1 : ∀ (i : Nat) (N : Nat → Int32) (K : Nat → Int64), i + 1 ≤ n → N 1 = nI v → N 2 = nI b → N 6 = nI i - 1 → 0 ≤ (K 4).toInt → Tm (fun k => x_intOf k 1 N K σ) (fun r => r.2 = σ ∧ ∃ y, y ≤ b + 1 ∧ (r.1 = nI y ∨ r.1 = - nI y) ∧ (0 ≤ σ.2.2 28 (v + 4) → r.1 = nI y)) := by
    intro i
    induction i with
    | zero =>
      intro N K hi n1 n2 n6 hK
      refine Tm_suc (fun k => by rw [x_intOf]) ?_
      rw [n6]
      refine Tm_ite (fun _ => ?_) (fun z => absurd (show nI 0 - 1 < 0 by decide) z)
      refine Tm_suc (fun k => by rw [x_intOf]) ?_
      rw [n2]
      refine Tm_ite (fun c => ?_) (fun _ => ?_)
      · have c := w_cmp.mp c
        rw [wb] at c
        refine Tm_suc (fun k => by rw [x_intOf]) ?_
        refine l6 _ K (K 4).toInt.toNat (by omega) n1 ?_
        show (K 4).toInt32 = _
        rw [i_eq, Int64.toInt_toInt32, n_int (by omega)]
        rw [Int.bmod_eq_of_le (by omega) (by omega)]
        omega
      · refine l6 _ K (b + 1) (Nat.le_refl _) n1 ?_
        show nI b + 1 = _
        rw [n_add1]
    | succ i ih =>
      intro N K hi n1 n2 n6 hK
      rw [show nI (i + 1) - 1 = nI i from n_sub (p := i + 1) (q := 1) (by omega) (by omega)] at n6
      have nx : ∀ (K' : Nat → Int64), 0 ≤ (K' 100).toInt → Tm (fun k => x_intOf k 3 N K' σ) (fun r => r.2 = σ ∧ ∃ y, y ≤ b + 1 ∧ (r.1 = nI y ∨ r.1 = - nI y) ∧ (0 ≤ σ.2.2 28 (v + 4) → r.1 = nI y)) := fun K' hK' => by
        refine Tm_suc (fun k => by rw [x_intOf]) ?_
        rw [n6]
        exact ih _ _ (by omega) n1 n2 (by show nI i + (-1) = nI i - 1; exact (Int32.sub_eq_add_neg _ _).symm) hK'
      refine Tm_suc (fun k => by rw [x_intOf]) ?_
      rw [n6, n2]
      refine Tm_ite (fun z => absurd z ?_) (fun _ => ?_)
      · intro z
        have := (n_lt (q := 0) (by omega) (by decide)).mp z
        omega
      refine Tm_ite (fun c => ?_) (fun _ => nx _ hK)
      have c := w_cmp.mp c
      rw [wb] at c
      refine Tm_suc (fun k => by rw [x_intOf]) ?_
      rw [n6, n1, show nI v + 5 = nI (v + 5) from n_add (q := 5) (by omega), n_add (by omega)]
      refine Tm_chk (n_in (by omega) (by omega)) ?_
      rw [n_cl (p := v + 5 + i) (by omega)]
      obtain ⟨d, d1, d2⟩ := w5.1 i (by omega)
      rw [d2]
      exact nx _ (w_more hK (by omega) d1)
  refine Tm_suc (fun k => by rw [x_intOf]) ?_
  rw [h1, n_add1]
  refine Tm_chk (n_in (by omega) (by omega)) ?_
  rw [n_cl (p := v + 1) (by omega), w1, show nI n - 1 = nI (n - 1) from n_sub (q := 1) (by omega) w2]
  exact l1 (n - 1) _ _ (by omega) h1 h2 rfl (Int.le_refl 0)
/-- while a power is worked: the heap stays, an error may come -/
def RQ (g : Nat → Prop) (l : List Nat) (B h t : Nat) (σ τ : MS) : Prop := VP g l B h t τ ∧ τ.2.2 28 = σ.2.2 28 ∧ FW t σ τ ∧ (¬ σ.1 56 = 0 → ¬ τ.1 56 = 0) ∧ (τ.1 56 = 0 → NF σ τ)
theorem RQ_rf (hP : VP g l B h t σ) : RQ g l B h t σ σ := ⟨hP, rfl, FW_rf, fun z => z, fun _ => NF_rf⟩
theorem RQ_NF {τ υ : MS} (h1 : RQ g l B h t σ τ) (h2 : NF τ υ) : RQ g l B h t σ υ := by
  obtain ⟨a, b, c, d, e⟩ := h1
  refine ⟨NF_VP h2 a, (h2.2 28 (by decide)).trans b, FW_tr c (NF_FW h2), fun z => ?_, fun z => ?_⟩
  · rw [h2.1 56 (by decide)]; exact d z
  · rw [h2.1 56 (by decide)] at z; exact NF_tr (e z) h2
theorem RQ_er {τ : MS} {e : Nat} (h1 : RQ g l B h t σ τ) (he : e ≤ 11) (he0 : ¬ nI e = 0) : RQ g l B h t σ (mEr τ (nI e)) := by
  obtain ⟨a, b, c, d, f⟩ := h1
  exact ⟨⟨HS_er a.1 _, (mEr_s (by decide)).trans a.2.1, a.2.2.1, ErB_er a.2.2.2 he⟩, b, FW_tr c FW_er, fun _ => mEr_e he0, fun z => absurd z (mEr_e he0)⟩
/-- powers -/
theorem s_raise (hP : VP g l B h t σ) {a b n m : Nat} (ha : a < 3 ∨ g a) (hA : Wh σ a n) (hB : Wh σ b m) {L : Nat → Int32} (h1 : L 1 = nI a) (h2 : L 2 = nI b) : Tm (fun k => x_raise k 0 L σ) (VO g B h t σ) := by
  have hA0 := hA
  have hB0 := hB
  obtain ⟨a1, a2, a3, a4, a5⟩ := hA
  obtain ⟨b1, b2, b3, b4, b5⟩ := hB
  refine Tm_suc (fun k => by rw [x_raise]) ?_
  refine Tm_ob (s_signOf hP.1 (m := b) (by omega) (by exact h2)) (fun r0 hr0 => ?_)
  rw [hr0]
  refine Tm_ite (fun _ => ?_) (fun _ => ?_)
  case refine_2 =>
    refine Tm_ob (s_fail _ σ) (fun r hr => ?_)
    rw [hr]
    exact Tm_some (VO_er hP (e := 4) (by decide))
  refine Tm_suc (fun k => by rw [x_raise]) ?_
  refine Tm_ob (s_intOf hP.1 hB0 (b := 5000) (by decide) (by exact h2) rfl) (fun r1 hr1 => ?_)
  obtain ⟨hr1, y, hy, _⟩ := hr1
  rw [hr1]
  refine Tm_ite (fun _ => Tm_ob (s_small hP _) (fun r hr => Tm_some hr)) (fun _ => ?_)
  -- the product, again and again
  have l23 : ∀ (N : Nat → Int32) (τ : MS) (c : Nat), N 1 = nI a → c ≤ 64 → NF σ τ → τ.1 86 = nI c → LM (τ.2.2 44) c → Tm (fun k => x_raise k 23 N τ) (VO g B h t σ) := fun N τ c n1 hc hF t86 hLM => by
    have l25 : ∀ N : Nat → Int32, (N 100 = 1 ∨ N 100 = -1) → Tm (fun k => x_raise k 25 N τ) (VO g B h t σ) := fun N n100 => by
      refine Tm_suc (fun k => by rw [x_raise]) ?_
      exact VO_NF_Tm hF hP (Tm_ob (s_wholeOf (NF_VP hF hP) (by omega) t86 hLM _ (Or.inl n100)) (fun r hr => Tm_some hr))
    have l24 : ∀ N : Nat → Int32, Tm (fun k => x_raise k 24 N τ) (VO g B h t σ) := fun N => by
      refine Tm_suc (fun k => by rw [x_raise]) ?_
      exact l25 _ (Or.inl rfl)
    refine Tm_suc (fun k => by rw [x_raise]) ?_
    refine Tm_ob (s_signOf (NF_HS hF hP.1) (m := a) (by omega) (by exact n1)) (fun r hr => ?_)
    rw [hr]
    refine Tm_ite (fun _ => l24 _) (fun _ => ?_)
    exact Tm_ite (fun _ => l24 _) (fun _ => l25 _ (Or.inr rfl))
  have l21 : ∀ (c j i : Nat) (N : Nat → Int32) (τ : MS), c ≤ 64 → j + i = c → N 1 = nI a → N 5 = nI c → N 6 = nI i → NF σ τ → τ.1 86 = nI c → LM (τ.2.2 47) c → LM (τ.2.2 44) i → Tm (fun k => x_raise k 21 N τ) (VO g B h t σ) := by
    intro c j
    induction j with
    | zero =>
      intro i N τ hc hi n1 n5 n6 hF t86 tR hLM
      refine Tm_suc (fun k => by rw [x_raise]) ?_
      rw [n5, n6]
      exact Tm_ite (fun _ => l23 N τ c n1 hc hF t86 (LM_mo hLM (by omega))) (fun q => absurd ((n_le (by omega) (by omega)).mpr (by omega)) q)
    | succ j ih =>
      intro i N τ hc hi n1 n5 n6 hF t86 tR hLM
      refine Tm_suc (fun k => by rw [x_raise]) ?_
      rw [n5, n6]
      refine Tm_ite (fun q => absurd ((n_le (by omega) (by omega)).mp q) (by omega)) (fun _ => ?_)
      refine Tm_chk (n_in (by omega) (by omega)) ?_
      refine Tm_chk (n_in (by omega) (by omega)) ?_
      rw [n_cl (p := i) (by omega)]
      show Tm (fun k => x_raise k 22 N (mAr τ 44 i (τ.2.2 47 i))) _
      refine Tm_suc (fun k => by rw [x_raise]) ?_
      exact ih (i + 1) _ _ hc (by omega) n1 n5 (by show N 6 + 1 = _; rw [n6, n_add1]) (NF_tr hF (NF_ar (by decide))) t86 (by rw [mAr_o (by decide)]; exact tR) (by rw [mAr_s]; exact LM_suc hLM (tR i (by omega)))
  -- after the loop
  have hE : ∀ τ : MS, ErB τ → τ.1 56 ≤ 0 → τ.1 56 = 0 := fun τ ⟨e, e1, e2⟩ w => by
    rw [e1] at w ⊢
    rw [(n_le0 (by omega)).mp w]; rfl
  have l18 : ∀ (c : Nat) (N : Nat → Int32) (τ : MS), (τ.1 56 = 0 → c ≤ 64) → N 1 = nI a → N 5 = nI c → RQ g l B h t σ τ → LM (τ.2.2 47) c → Tm (fun k => x_raise k 18 N τ) (VO g B h t σ) := by
    intro c N τ hc n1 n5 hQ tR
    obtain ⟨hPt, h28, hFW, he, hNF⟩ := hQ
    refine Tm_suc (fun k => by rw [x_raise]) ?_
    refine Tm_ite (fun w => ?_) (fun w => ?_)
    · have w0 := hE τ hPt.2.2.2 w
      refine Tm_suc (fun k => by rw [x_raise]) ?_
      rw [n5]
      show Tm (fun k => x_raise k 20 N (mSc τ 86 (nI c))) _
      refine Tm_suc (fun k => by rw [x_raise]) ?_
      exact l21 c c 0 _ _ (hc w0) (by omega) n1 n5 rfl (NF_tr (hNF w0) (NF_sc (by decide))) rfl tR (fun i hi => absurd hi (Nat.not_lt_zero i))
    · exact Tm_some ⟨g, l, h, ⟨hPt.1, fun _ z => z, Nat.le_refl _, fun i _ _ => by rw [h28]⟩, hFW, hPt.2.1, hPt.2.2.2, he, Vd_0⟩
  have l13 : ∀ (j i c : Nat) (N : Nat → Int32) (τ : MS), (N 3).toInt ≤ i + j → i + j < 2147483648 → (τ.1 56 = 0 → c ≤ 64) → N 1 = nI a → N 5 = nI c → N 6 = nI i → RQ g l B h t σ τ → τ.1 84 = nI (n - 1) → LM (τ.2.2 42) (n - 1) → LM (τ.2.2 47) c → Tm (fun k => x_raise k 13 N τ) (VO g B h t σ) := by
    intro j
    induction j with
    | zero =>
      intro i c N τ hj hj2 hc n1 n5 n6 hQ t84 tA tR
      refine Tm_suc (fun k => by rw [x_raise]) ?_
      rw [n6]
      refine Tm_ite (fun _ => l18 c N τ hc n1 n5 hQ tR) (fun q => absurd (i_le.mpr ?_) q)
      rw [n_int (by omega)]; omega
    | succ j ih =>
      intro i c N τ hj hj2 hc n1 n5 n6 hQ t84 tA tR
      refine Tm_suc (fun k => by rw [x_raise]) ?_
      refine Tm_ite (fun _ => l18 c N τ hc n1 n5 hQ tR) (fun _ => ?_)
      refine Tm_ite (fun w0 => ?_) (fun _ => l18 c N τ hc n1 n5 hQ tR)
      have hc64 := hc w0
      rw [n5]
      refine Tm_ob (s_rowsTimes (p := c) (n := n - 1) (by omega) (by omega) t84 tA tR rfl) (fun r3 hr3 => ?_)
      obtain ⟨hF3, q42, q84, c', hc', q86, qC⟩ := hr3
      have hQ3 : RQ g l B h t σ r3.2 := RQ_NF hQ hF3
      -- what was made goes back
      have l15 : ∀ (q e : Nat) (N : Nat → Int32) (υ : MS), q + e = c' → (N 3).toInt ≤ i + (j + 1) → (υ.1 56 = 0 → c' ≤ 64) → N 1 = nI a → N 5 = nI c' → N 6 = nI i → N 7 = nI e → RQ g l B h t σ υ → υ.1 84 = nI (n - 1) → υ.1 86 = nI c' → LM (υ.2.2 42) (n - 1) → LM (υ.2.2 44) c' → LM (υ.2.2 47) e → Tm (fun k => x_raise k 15 N υ) (VO g B h t σ) := by
        intro q
        induction q with
        | zero =>
          intro e N υ he hN3 hcc n1 n5 n6 n7 hQu u84 u86 uA uC uR
          refine Tm_suc (fun k => by rw [x_raise]) ?_
          rw [u86, n7]
          refine Tm_ite (fun _ => ?_) (fun q => absurd ((n_le (by omega) (by omega)).mpr (by omega)) q)
          refine Tm_suc (fun k => by rw [x_raise]) ?_
          exact ih (i + 1) c' _ υ (by show (N 3).toInt ≤ ((i + 1 : Nat) : Int) + j; omega) (by omega) hcc n1 n5 (by show N 6 + 1 = _; rw [n6, n_add1]) hQu u84 uA (LM_mo uR (by omega))
        | succ q ihq =>
          intro e N υ he hN3 hcc n1 n5 n6 n7 hQu u84 u86 uA uC uR
          refine Tm_suc (fun k => by rw [x_raise]) ?_
          rw [u86, n7]
          refine Tm_ite (fun q => absurd ((n_le (by omega) (by omega)).mp q) (by omega)) (fun _ => ?_)
          refine Tm_chk (n_in (by omega) (by omega)) ?_
          refine Tm_chk (n_in (by omega) (by omega)) ?_
          rw [n_cl (p := e) (by omega)]
          show Tm (fun k => x_raise k 16 N (mAr υ 47 e (υ.2.2 44 e))) _
          refine Tm_suc (fun k => by rw [x_raise]) ?_
          exact ihq (e + 1) _ _ (by omega) hN3 hcc n1 n5 n6 (by show N 7 + 1 = _; rw [n7, n_add1]) (RQ_NF hQu (NF_ar (by decide))) u84 u86 (by rw [mAr_o (by decide)]; exact uA) (by rw [mAr_o (by decide)]; exact uC) (by rw [mAr_s]; exact LM_suc uR (uC e (by omega)))
      have l14 : ∀ υ : MS, (υ.1 56 = 0 → c' ≤ 64) → RQ g l B h t σ υ → υ.1 84 = nI (n - 1) → υ.1 86 = nI c' → LM (υ.2.2 42) (n - 1) → LM (υ.2.2 44) c' → Tm (fun k => x_raise k 14 N υ) (VO g B h t σ) := fun υ hcc hQu u84 u86 uA uC => by
        refine Tm_suc (fun k => by rw [x_raise]) ?_
        rw [u86]
        exact l15 c' 0 _ υ (by omega) hj hcc n1 rfl n6 rfl hQu u84 u86 uA uC (fun i hi => absurd hi (Nat.not_lt_zero i))
      have sA3 : LM (r3.2.2.2 42) (n - 1) := by rw [q42]; exact tA
      rw [q86]
      refine Tm_ite (fun w => ?_) (fun w => ?_)
      · have w := (n_le (q := 64) (by omega) (by decide)).mp w
        exact l14 r3.2 (fun _ => w) hQ3 q84 q86 sA3 qC
      · refine Tm_ob (s_fail _ r3.2) (fun r5 hr5 => ?_)
        rw [hr5]
        show Tm (fun k => x_raise k 14 N (mEr r3.2 5)) _
        exact l14 (mEr r3.2 5) (fun z => absurd z (mEr_e (by decide))) (RQ_er hQ3 (e := 5) (by decide) (by decide)) ((mEr_s (by decide)).trans q84) ((mEr_s (by decide)).trans q86) sA3 qC
  -- the first factor
  have l9 : ∀ N : Nat → Int32, N 1 = nI a → (N 3).toInt ≤ 2147483647 → Tm (fun k => x_raise k 9 N σ) (VO g B h t σ) := fun N n1 n3 => by
    refine Tm_suc (fun k => by rw [x_raise]) ?_
    refine Tm_ob (s_loadA hP.1 a1 a2 a3 a4 a5 (by exact n1)) (fun r hr => ?_)
    obtain ⟨hF1, p84, pA, _, _⟩ := hr
    rw [p84]
    have l10 : ∀ (j i : Nat) (M : Nat → Int32) (τ : MS), j + i = n - 1 → M 1 = nI a → (M 3).toInt ≤ 2147483647 → M 5 = nI (n - 1) → M 6 = nI i → NF σ τ → τ.1 84 = nI (n - 1) → LM (τ.2.2 42) (n - 1) → LM (τ.2.2 47) i → Tm (fun k => x_raise k 10 M τ) (VO g B h t σ) := by
      intro j
      induction j with
      | zero =>
        intro i M τ hi m1 m3 m5 m6 hF t84 tA tR
        refine Tm_suc (fun k => by rw [x_raise]) ?_
        rw [t84, m6]
        refine Tm_ite (fun _ => ?_) (fun q => absurd ((n_le (by omega) (by omega)).mpr (by omega)) q)
        refine Tm_suc (fun k => by rw [x_raise]) ?_
        exact l13 2147483646 1 (n - 1) _ τ (by show (M 3).toInt ≤ _; omega) (by decide) (fun _ => by omega) m1 m5 rfl (RQ_NF (RQ_rf hP) hF) t84 tA (LM_mo tR (by omega))
      | succ j ih =>
        intro i M τ hi m1 m3 m5 m6 hF t84 tA tR
        refine Tm_suc (fun k => by rw [x_raise]) ?_
        rw [t84, m6]
        refine Tm_ite (fun q => absurd ((n_le (by omega) (by omega)).mp q) (by omega)) (fun _ => ?_)
        refine Tm_chk (n_in (by omega) (by omega)) ?_
        refine Tm_chk (n_in (by omega) (by omega)) ?_
        rw [n_cl (p := i) (by omega)]
        show Tm (fun k => x_raise k 11 M (mAr τ 47 i (τ.2.2 42 i))) _
        refine Tm_suc (fun k => by rw [x_raise]) ?_
        exact ih (i + 1) _ _ (by omega) m1 m3 m5 (by show M 6 + 1 = _; rw [m6, n_add1]) (NF_tr hF (NF_ar (by decide))) t84 (by rw [mAr_o (by decide)]; exact tA) (by rw [mAr_s]; exact LM_suc tR (tA i (by omega)))
    exact l10 (n - 1) 0 _ _ (by omega) n1 n3 rfl rfl hF1 p84 pA (fun i hi => absurd hi (Nat.not_lt_zero i))
  have bd3 : ∀ x : Int32, x.toInt ≤ 2147483647 := fun x => (i_bd x).2
  have l5 : ∀ N : Nat → Int32, N 1 = nI a → Tm (fun k => x_raise k 5 N σ) (VO g B h t σ) := fun N n1 => by
    have l6 : Tm (fun k => x_raise k 6 N σ) (VO g B h t σ) := by
      refine Tm_suc (fun k => by rw [x_raise]) ?_
      refine Tm_suc (fun k => by rw [x_raise]) ?_
      exact Tm_some (VO_id hP ⟨a, n1, ha⟩)
    refine Tm_suc (fun k => by rw [x_raise]) ?_
    refine Tm_ob (s_signOf hP.1 (m := a) (by omega) (by exact n1)) (fun r hr => ?_)
    rw [hr]
    refine Tm_ite (fun _ => l6) (fun _ => ?_)
    refine Tm_ite (fun _ => ?_) (fun _ => l6)
    refine Tm_suc (fun k => by rw [x_raise]) ?_
    refine Tm_ob (s_small hP _) (fun r hr => ?_)
    refine Tm_suc (fun k => by rw [x_raise]) ?_
    exact Tm_some hr
  have l4 : ∀ N : Nat → Int32, N 1 = nI a → Tm (fun k => x_raise k 4 N σ) (VO g B h t σ) := fun N n1 => by
    refine Tm_suc (fun k => by rw [x_raise]) ?_
    rw [n1, n_add1]
    refine Tm_chk (n_in (by omega) (by omega)) ?_
    refine Tm_ite (fun _ => l5 _ n1) (fun _ => ?_)
    refine Tm_chk (n_in (by omega) (by omega)) ?_
    refine Tm_ite (fun w => ?_) (fun _ => l9 _ n1 (bd3 _))
    rw [n_cl (p := a + 1) (by omega), a1] at w
    have w := (n_eq (q := 2) (by omega) (by decide)).mp w
    rw [show nI a + 5 = nI (a + 5) from n_add (q := 5) (by omega)]
    refine Tm_chk (n_in (by omega) (by omega)) ?_
    exact Tm_ite (fun _ => l5 _ n1) (fun _ => l9 _ n1 (bd3 _))
  refine Tm_suc (fun k => by rw [x_raise]) ?_
  show Tm (fun k => if ¬ (L 2 + 1 < 0 ∨ 1740000 ≤ (L 2 + 1).toNatClampNeg) then (if σ.2.2 28 (L 2 + 1).toNatClampNeg ≤ 1 then x_raise k 3 (upd L 3 r1.1) σ else (if ¬ (L 2 + 5 < 0 ∨ 1740000 ≤ (L 2 + 5).toNatClampNeg) then (if σ.2.2 28 (L 2 + 5).toNatClampNeg &&& 1 = 1 then x_raise k 4 (upd (upd L 3 r1.1) 100 1) σ else x_raise k 3 (upd L 3 r1.1) σ) else none)) else none) _
  rw [h2, n_add1]
  refine Tm_chk (n_in (by omega) (by omega)) ?_
  rw [n_cl (p := b + 1) (by omega), b1]
  have l3 : ∀ N : Nat → Int32, N 1 = nI a → Tm (fun k => x_raise k 3 N σ) (VO g B h t σ) := fun N n1 => by
    refine Tm_suc (fun k => by rw [x_raise]) ?_
    exact l4 _ n1
  refine Tm_ite (fun _ => l3 _ h1) (fun w => ?_)
  have w : ¬ m ≤ 1 := fun z => w ((n_le (q := 1) (by omega) (by decide)).mpr z)
  rw [show nI b + 5 = nI (b + 5) from n_add (q := 5) (by omega)]
  refine Tm_chk (n_in (by omega) (by omega)) ?_
  exact Tm_ite (fun _ => l4 _ h1) (fun _ => l3 _ h1)
end INO
