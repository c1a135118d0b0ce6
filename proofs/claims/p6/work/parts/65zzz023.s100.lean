/-! Small wholes, the other sign, literals, sums (reference). -/
section SML
variable {g : Nat → Prop} {l : List Nat} {B h t : Nat} {σ : MS}
theorem n_ushr16 {m : Nat} (hm : m < 2147483648) : ((nI m).toUInt32 >>> ((16 : Int32).toUInt32 &&& Int32.toUInt32 31)).toInt32 = nI (m / 65536) := by
  refine Int32.toBitVec_inj.mp ?_
  show (nI m).toBitVec >>> (((16 : Int32).toUInt32 &&& Int32.toUInt32 31).toBitVec % 32) = (nI (m / 65536)).toBitVec
  have e1 : (((16 : Int32).toUInt32 &&& Int32.toUInt32 31).toBitVec % 32) = 16#32 := by decide
  rw [e1]
  apply BitVec.eq_of_toNat_eq
  show ((Int32.ofNat m).toBitVec >>> 16#32).toNat = (Int32.ofNat (m / 65536)).toBitVec.toNat
  rw [Int32.toBitVec_ofNat', Int32.toBitVec_ofNat']
  rw [BitVec.ushiftRight_eq', BitVec.toNat_ushiftRight]
  simp only [BitVec.toNat_ofNat]
  rw [Nat.shiftRight_eq_div_pow]
  show m % 4294967296 / 65536 = m / 65536 % 4294967296
  omega
theorem s_small (hP : VP g l B h t σ) (L : Nat → Int32) : Tm (fun k => x_small k 0 L σ) (VO g B h t σ) := by
  have l8 : ∀ (N : Nat → Int32) (τ : MS) (c : Nat), c ≤ 300 → NF σ τ → τ.1 86 = nI c → LM (τ.2.2 44) c → (N 100 = 1 ∨ N 100 = -1) → Tm (fun k => x_small k 8 N τ) (VO g B h t σ) := fun N τ c hc hF t86 hLM n100 => by
    refine Tm_suc (fun k => by rw [x_small]) ?_
    refine VO_NF_Tm hF hP (Tm_ob (s_wholeOf (NF_VP hF hP) hc t86 hLM _ (Or.inl n100)) (fun r hr => Tm_some hr))
  have l6 : ∀ (N : Nat → Int32) (τ : MS) (c : Nat), c ≤ 300 → NF σ τ → τ.1 86 = nI c → LM (τ.2.2 44) c → Tm (fun k => x_small k 6 N τ) (VO g B h t σ) := fun N τ c hc hF t86 hLM => by
    refine Tm_suc (fun k => by rw [x_small]) ?_
    refine Tm_ite (fun _ => ?_) (fun _ => l8 _ τ c hc hF t86 hLM (Or.inr rfl))
    refine Tm_suc (fun k => by rw [x_small]) ?_
    exact l8 _ τ c hc hF t86 hLM (Or.inl rfl)
  have l4 : ∀ (j m c : Nat) (N : Nat → Int32) (τ : MS), m < 65536 ^ j → m < 2147483648 → c + j ≤ 300 → N 2 = nI m → NF σ τ → τ.1 86 = nI c → LM (τ.2.2 44) c → Tm (fun k => x_small k 4 N τ) (VO g B h t σ) := by
    intro j
    induction j with
    | zero =>
      intro m c N τ hm hm2 hc n2 hF t86 hLM
      have hm : m = 0 := by
        have : m < 1 := hm
        omega
      refine Tm_suc (fun k => by rw [x_small]) ?_
      rw [n2, hm]
      exact Tm_ite (fun _ => l6 N τ c (by omega) hF t86 hLM) (fun q => absurd ((n_le0 (by decide)).mpr rfl) q)
    | succ j ih =>
      intro m c N τ hm hm2 hc n2 hF t86 hLM
      refine Tm_suc (fun k => by rw [x_small]) ?_
      rw [n2, t86]
      refine Tm_ite (fun _ => l6 N τ c (by omega) hF t86 hLM) (fun _ => ?_)
      refine Tm_chk (n_in (by omega) (by omega)) ?_
      rw [n_cl (p := c) (by omega)]
      show Tm (fun k => x_small k 5 N (mAr τ 44 c (nI m &&& 65535))) _
      refine Tm_suc (fun k => by rw [x_small]) ?_
      rw [n2, n_ushr16 hm2]
      show Tm (fun k => x_small k 4 (upd N 2 (nI (m / 65536))) (mSc (mAr τ 44 c (nI m &&& 65535)) 86 (τ.1 86 + 1))) _
      rw [t86, n_add1]
      refine ih (m / 65536) (c + 1) _ _ ?_ (by omega) (by omega) rfl (NF_tr hF (NF_tr (NF_ar (by decide)) (NF_sc (by decide)))) rfl ?_
      · rw [Nat.pow_succ] at hm
        exact Nat.div_lt_of_lt_mul (by rw [Nat.mul_comm]; exact hm)
      · show LM ((mAr τ 44 c (nI m &&& 65535)).2.2 44) (c + 1)
        rw [mAr_s]; exact LM_suc hLM (n_and16 _)
  have l3 : ∀ N : Nat → Int32, Tm (fun k => x_small k 3 N (mSc σ 86 0)) (VO g B h t σ) := fun N => by
    refine Tm_suc (fun k => by rw [x_small]) ?_
    by_cases z : 0 ≤ (N 100).toInt
    · have hb := i_bd (N 100)
      exact l4 2 (N 100).toInt.toNat 0 _ _ (by show _ < 4294967296; omega) (by omega) (by decide) (n_ofpos z) (NF_sc (by decide)) rfl (fun i hi => absurd hi (Nat.not_lt_zero i))
    · refine Tm_suc (fun k => by rw [x_small]) ?_
      refine Tm_ite (fun _ => l6 _ _ 0 (by decide) (NF_sc (by decide)) rfl (fun i hi => absurd hi (Nat.not_lt_zero i))) (fun q => absurd (i_le.mpr ?_) q)
      show (N 100).toInt ≤ 0
      omega
  refine Tm_suc (fun k => by rw [x_small]) ?_
  show Tm (fun k => x_small k 1 L (mSc σ 86 0)) _
  refine Tm_suc (fun k => by rw [x_small]) ?_
  refine Tm_ite (fun _ => ?_) (fun _ => l3 _)
  refine Tm_suc (fun k => by rw [x_small]) ?_
  exact l3 _
/-- what is known of a good whole -/
def Wh (σ : MS) (v n : Nat) : Prop := σ.2.2 28 (v + 1) = nI n ∧ 1 ≤ n ∧ n ≤ 65 ∧ v + 4 + n ≤ 1740000 ∧ WHk (σ.2.2 28) v n
theorem Wh_NF {τ : MS} {v n : Nat} (hN : NF σ τ) (hW : Wh σ v n) : Wh τ v n := by
  unfold Wh; rw [hN.2 28 (by decide)]; exact hW
theorem Wh_of (hS : HS g l B h σ) {v : Nat} (hv : v < 3 ∨ g v) (hk : kdN (σ.2.2 28) v = 2) : ∃ n, Wh σ v n := by
  have hB := HS_b hS
  unfold kdN at hk
  by_cases c : v < 3
  · by_cases c0 : v = 0
    · rw [if_pos c0] at hk; omega
    · rw [if_neg c0, if_pos c] at hk; omega
  · rw [if_neg (by omega), if_neg c] at hk
    obtain ⟨k, n, s, u, h1, h2, h3⟩ := HS_at hS (hv.resolve_left c)
    have hk5 := h1.2.2.2.2.1
    rw [h1.1, n_cl (by omega)] at hk
    obtain ⟨a, b, d⟩ := GW h1 hk
    exact ⟨n, h1.2.1, a, b, by omega, d⟩
theorem s_other (hP : VP g l B h t σ) {v n : Nat} (hW : Wh σ v n) {L : Nat → Int32} (hL : L 1 = nI v) : Tm (fun k => x_other k 0 L σ) (VO g B h t σ) := by
  obtain ⟨w1, w2, w3, w4, w5⟩ := hW
  have l4 : ∀ (N : Nat → Int32) (τ : MS), N 1 = nI v → NF σ τ → τ.1 86 = nI (n - 1) → LM (τ.2.2 44) (n - 1) → Tm (fun k => x_other k 4 N τ) (VO g B h t σ) := fun N τ n1 hF t86 hLM => by
    refine Tm_suc (fun k => by rw [x_other]) ?_
    refine Tm_ob (s_signOf (NF_HS hF hP.1) (m := v) (by omega) (by exact n1)) (fun r hr => ?_)
    rw [hr, hF.2 28 (by decide)]
    refine VO_NF_Tm hF hP (Tm_ob (s_wholeOf (NF_VP hF hP) (by omega) t86 hLM _ ?_) (fun r hr => Tm_some hr))
    show SgO (- σ.2.2 28 (v + 4)) _ _
    rcases w5.2 with (q | q) | ⟨q, _⟩
    · rw [q]; exact Or.inl (Or.inr rfl)
    · rw [q]; exact Or.inl (Or.inl rfl)
    · exact Or.inr (fun i hi => by omega)
  have l2 : ∀ (j i : Nat) (N : Nat → Int32) (τ : MS), j + i = n - 1 → N 1 = nI v → N 2 = nI i → NF σ τ → τ.1 84 = nI (n - 1) → τ.1 86 = nI (n - 1) → LM (τ.2.2 42) (n - 1) → LM (τ.2.2 44) i → Tm (fun k => x_other k 2 N τ) (VO g B h t σ) := by
    intro j
    induction j with
    | zero =>
      intro i N τ hi n1 n2 hF t84 t86 hA hC
      refine Tm_suc (fun k => by rw [x_other]) ?_
      rw [t84, n2]
      exact Tm_ite (fun _ => l4 N τ n1 hF t86 (LM_mo hC (by omega))) (fun q => absurd ((n_le (by omega) (by omega)).mpr (by omega)) q)
    | succ j ih =>
      intro i N τ hi n1 n2 hF t84 t86 hA hC
      refine Tm_suc (fun k => by rw [x_other]) ?_
      rw [t84, n2]
      refine Tm_ite (fun q => absurd ((n_le (by omega) (by omega)).mp q) (by omega)) (fun _ => ?_)
      refine Tm_chk (n_in (by omega) (by omega)) ?_
      refine Tm_chk (n_in (by omega) (by omega)) ?_
      rw [n_cl (p := i) (by omega)]
      show Tm (fun k => x_other k 3 N (mAr τ 44 i (τ.2.2 42 i))) _
      refine Tm_suc (fun k => by rw [x_other]) ?_
      exact ih (i + 1) _ _ (by omega) n1 (by show N 2 + 1 = _; rw [n2, n_add1]) (NF_tr hF (NF_ar (by decide))) t84 t86 (by rw [mAr_o (by decide)]; exact hA) (by rw [mAr_s]; exact LM_suc hC (hA i (by omega)))
  refine Tm_suc (fun k => by rw [x_other]) ?_
  refine Tm_ob (s_loadA hP.1 w1 w2 w3 w4 w5 (by exact hL)) (fun r hr => ?_)
  obtain ⟨hF, t84, hA, _, _⟩ := hr
  show Tm (fun k => x_other k 1 L (mSc r.2 86 (r.2.1 84))) _
  refine Tm_suc (fun k => by rw [x_other]) ?_
  exact l2 (n - 1) 0 _ _ (by omega) hL rfl (NF_tr hF (NF_sc (by decide))) t84 (by show r.2.1 84 = _; exact t84) hA (fun i hi => absurd hi (Nat.not_lt_zero i))
/-- digits of a NUMBER -/
theorem s_literal (hP : VP g l B h t σ) {f n : Nat} (hn : n ≤ 60) (hf : f + n ≤ 70000) (hd : ∀ i, i < n → ∃ d, d ≤ 300 ∧ σ.2.2 12 (f + i) = nI d) {L : Nat → Int32} (h1 : L 1 = nI f) (h2 : L 2 = nI n) : Tm (fun k => x_literal k 0 L σ) (VO g B h t σ) := by
  have l2 : ∀ (j i c : Nat) (N : Nat → Int32) (τ : MS), j + i = n → c ≤ i → N 1 = nI f → N 2 = nI n → N 3 = nI i → NF σ τ → τ.1 86 = nI c → LM (τ.2.2 44) c → Tm (fun k => x_literal k 2 N τ) (VO g B h t σ) := by
    intro j
    induction j with
    | zero =>
      intro i c N τ hi hc n1 n2 n3 hF t86 hLM
      refine Tm_suc (fun k => by rw [x_literal]) ?_
      rw [n2, n3]
      refine Tm_ite (fun _ => ?_) (fun q => absurd ((n_le (by omega) (by omega)).mpr (by omega)) q)
      refine Tm_suc (fun k => by rw [x_literal]) ?_
      refine VO_NF_Tm hF hP (Tm_ob (s_wholeOf (NF_VP hF hP) (by omega) t86 hLM _ (Or.inl (Or.inl rfl))) (fun r hr => Tm_some hr))
    | succ j ih =>
      intro i c N τ hi hc n1 n2 n3 hF t86 hLM
      -- the next digit
      have l7 : ∀ (c' : Nat) (N : Nat → Int32) (τ : MS), c' ≤ i + 1 → N 1 = nI f → N 2 = nI n → N 3 = nI i → NF σ τ → τ.1 86 = nI c' → LM (τ.2.2 44) c' → Tm (fun k => x_literal k 7 N τ) (VO g B h t σ) := fun c' N τ hc' n1 n2 n3 hF t86 hLM => by
        refine Tm_suc (fun k => by rw [x_literal]) ?_
        exact ih (i + 1) c' _ τ (by omega) hc' n1 n2 (by show N 3 + 1 = _; rw [n3, n_add1]) hF t86 hLM
      have l5 : ∀ (N : Nat → Int32) (τ : MS), N 1 = nI f → N 2 = nI n → N 3 = nI i → (¬ N 4 ≤ 0 → ∃ d, d ≤ 65535 ∧ N 4 = nI d) → NF σ τ → τ.1 86 = nI c → LM (τ.2.2 44) c → Tm (fun k => x_literal k 5 N τ) (VO g B h t σ) := fun N τ n1 n2 n3 n4 hF t86 hLM => by
        refine Tm_suc (fun k => by rw [x_literal]) ?_
        refine Tm_ite (fun _ => l7 c N τ (by omega) n1 n2 n3 hF t86 hLM) (fun z => ?_)
        rw [t86]
        refine Tm_chk (n_in (by omega) (by omega)) ?_
        rw [n_cl (p := c) (by omega)]
        show Tm (fun k => x_literal k 6 N (mAr τ 44 c (N 4))) _
        refine Tm_suc (fun k => by rw [x_literal]) ?_
        show Tm (fun k => x_literal k 7 N (mSc (mAr τ 44 c (N 4)) 86 (τ.1 86 + 1))) _
        rw [t86, n_add1]
        exact l7 (c + 1) N _ (by omega) n1 n2 n3 (NF_tr hF (NF_tr (NF_ar (by decide)) (NF_sc (by decide)))) rfl (by show LM ((mAr τ 44 c (N 4)).2.2 44) (c + 1); rw [mAr_s]; exact LM_suc hLM (n4 z))
      have l3 : ∀ (m k : Nat) (N : Nat → Int32) (τ : MS), m + k = c → N 1 = nI f → N 2 = nI n → N 3 = nI i → N 5 = nI k → (¬ N 4 ≤ 0 → ∃ d, d ≤ 65535 ∧ N 4 = nI d) → NF σ τ → τ.1 86 = nI c → LM (τ.2.2 44) c → Tm (fun f => x_literal f 3 N τ) (VO g B h t σ) := by
        intro m
        induction m with
        | zero =>
          intro k N τ hk n1 n2 n3 n5 n4 hF t86 hLM
          refine Tm_suc (fun k => by rw [x_literal]) ?_
          rw [t86, n5]
          exact Tm_ite (fun _ => l5 N τ n1 n2 n3 n4 hF t86 hLM) (fun q => absurd ((n_le (by omega) (by omega)).mpr (by omega)) q)
        | succ m ihm =>
          intro k N τ hk n1 n2 n3 n5 n4 hF t86 hLM
          refine Tm_suc (fun k => by rw [x_literal]) ?_
          rw [t86, n5]
          refine Tm_ite (fun q => absurd ((n_le (by omega) (by omega)).mp q) (by omega)) (fun _ => ?_)
          refine Tm_chk (n_in (by omega) (by omega)) ?_
          refine Tm_chk (n_in (by omega) (by omega)) ?_
          rw [n_cl (p := k) (by omega)]
          generalize 10 * τ.2.2 44 k + N 4 = x
          show Tm (fun f => x_literal f 4 (upd N 6 x) (mAr τ 44 k (x &&& 65535))) _
          refine Tm_suc (fun k => by rw [x_literal]) ?_
          exact ihm (k + 1) _ _ (by omega) n1 n2 n3 (by show N 5 + 1 = _; rw [n5, n_add1]) (fun z => n_shr16 x z) (NF_tr hF (NF_ar (by decide))) t86 (by rw [mAr_s]; exact LM_upd hLM (n_and16 _))
      refine Tm_suc (fun k => by rw [x_literal]) ?_
      rw [n2, n3, n1, n_add (by omega)]
      refine Tm_ite (fun q => absurd ((n_le (by omega) (by omega)).mp q) (by omega)) (fun _ => ?_)
      refine Tm_chk (n_in (by omega) (by omega)) ?_
      obtain ⟨d, d1, d2⟩ := hd i (by omega)
      rw [n_cl (p := f + i) (by omega), hF.2 12 (by decide), d2]
      refine l3 c 0 _ _ (by omega) n1 n2 n3 rfl (fun z => ?_) hF t86 hLM
      have z : ¬ nI d - 48 ≤ 0 := z
      show ∃ e, e ≤ 65535 ∧ nI d - 48 = nI e
      by_cases q : 48 ≤ d
      · exact ⟨d - 48, by omega, n_sub (q := 48) (by omega) q⟩
      · refine absurd (i_le.mpr ?_) z
        rw [i_sub (by rw [n_int (by omega)]; show (-2147483648 : Int) ≤ (d : Int) - 48; omega) (by rw [n_int (by omega)]; show (d : Int) - 48 ≤ 2147483647; omega), n_int (by omega)]
        show (d : Int) - 48 ≤ 0
        omega
  refine Tm_suc (fun k => by rw [x_literal]) ?_
  show Tm (fun k => x_literal k 1 L (mSc σ 86 0)) _
  refine Tm_suc (fun k => by rw [x_literal]) ?_
  exact l2 n 0 0 _ _ (by omega) (Nat.le_refl _) h1 h2 rfl (NF_sc (by decide)) rfl (fun i hi => absurd hi (Nat.not_lt_zero i))
end SML
