/-! Rows are divided (reference). -/
theorem n_shr4 {m : Nat} (hm : m < 2147483648) : nI m >>> ((4 : Int32) &&& 31) = nI (m / 16) := by
  rw [i_eq, n_int (by omega)]
  show ((nI m).toBitVec.sshiftRight' (((4 : Int32) &&& 31).toBitVec.smod 32)).toInt = _
  rw [BitVec.toInt_sshiftRight', show (((4 : Int32) &&& 31).toBitVec.smod 32).toNat = 4 from by decide, Int.shiftRight_eq_div_pow]
  show (nI m).toInt / 16 = _
  rw [n_int hm]
  omega
theorem n_and1 (x : Int32) : ∃ d, d ≤ 1 ∧ x &&& 1 = nI d := by
  refine ⟨(x &&& 1).toBitVec.toNat, ?_, n_ofbv _⟩
  rw [Int32.toBitVec_and, BitVec.toNat_and]
  exact Nat.and_le_right
theorem n_andn {z : Int32} (h1 : -65536 ≤ z.toInt) (h2 : z.toInt < 0) : z &&& 65535 = nI (z.toInt + 65536).toNat := by
  refine Int32.toBitVec_inj.mp ?_
  apply BitVec.eq_of_toNat_eq
  rw [Int32.toBitVec_and, BitVec.toNat_and]
  show z.toBitVec.toNat &&& 65535 = (Int32.ofNat (z.toInt + 65536).toNat).toBitVec.toNat
  rw [Int32.toBitVec_ofNat']
  simp only [BitVec.toNat_ofNat]
  have e : z.toBitVec.toInt = z.toInt := rfl
  rw [BitVec.toInt_eq_toNat_cond] at e
  have hl := z.toBitVec.isLt
  have hz : (z.toBitVec.toNat : Int) = z.toInt + 4294967296 := by
    split at e <;> omega
  rw [show (65535 : Nat) = 2 ^ 16 - 1 from rfl, Nat.and_two_pow_sub_one_eq_mod]
  omega
/-- a limb less another and a borrow -/
theorem n_bor {x y w : Nat} (hx : x ≤ 65535) (hy : y ≤ 65535) (hw : w ≤ 1) : ∃ (w' d' : Nat), w' ≤ 1 ∧ d' ≤ 65535 ∧ (nI x - nI y - nI w) &&& 65535 = nI d' ∧ d' + y + w = x + w' * 65536 ∧ (0 ≤ nI x - nI y - nI w ↔ w' = 0) := by
  have e : (nI x - nI y - nI w).toInt = (x : Int) - y - w := by
    have e1 : (nI x - nI y).toInt = (x : Int) - y := by
      rw [i_sub (by rw [n_int (by omega), n_int (by omega)]; omega) (by rw [n_int (by omega), n_int (by omega)]; omega), n_int (by omega), n_int (by omega)]
    rw [i_sub (by rw [e1, n_int (by omega)]; omega) (by rw [e1, n_int (by omega)]; omega), e1, n_int (by omega)]
  by_cases q : 0 ≤ (x : Int) - y - w
  · refine ⟨0, x - y - w, by decide, by omega, ?_, by omega, ⟨fun _ => rfl, fun _ => i_le.mpr (by rw [e]; exact q)⟩⟩
    have : nI x - nI y - nI w = nI (x - y - w) := by
      rw [i_eq, e, n_int (by omega)]; omega
    rw [this, n_and _ (by omega), Nat.mod_eq_of_lt (by omega)]
  · refine ⟨1, x + 65536 - y - w, by decide, by omega, ?_, by omega, ⟨fun z => absurd (i_le.mp z) (by rw [e]; show ¬ (0 : Int) ≤ _; omega), fun z => absurd z (by decide)⟩⟩
    rw [n_andn (by rw [e]; omega) (by rw [e]; omega), e]
    congr 1
    omega
theorem vl_mono {f : Nat → Int32} {k n : Nat} (h : k ≤ n) : vl f k ≤ vl f n := by
  induction n with
  | zero => rw [show k = 0 by omega]; exact Nat.le_refl _
  | succ n ih =>
    by_cases e : k = n + 1
    · rw [e]; exact Nat.le_refl _
    · have := ih (by omega)
      have v : vl f (n + 1) = vl f n + dg f n * 65536 ^ n := rfl
      omega
theorem n_mul16 {w : Nat} (h : w ≤ 64) : (16 : Int32) * nI w = nI (16 * w) := by
  have h1 : (16 : Int32) = nI 16 := rfl
  rw [h1]
  exact (Int32.ofNat_mul 16 w).symm
section DIV
variable {σ : MS}
/-- the rest so far -/
def DR (σ τ : MS) (na nb r j : Nat) : Prop := NF σ τ ∧ τ.2.2 42 = σ.2.2 42 ∧ τ.2.2 43 = σ.2.2 43 ∧ τ.1 84 = nI na ∧ τ.1 85 = nI nb ∧ τ.1 89 = nI na ∧ τ.1 90 = nI r ∧ LM (τ.2.2 46) r ∧ (r = 0 ∨ 65536 ^ (r - 1) ≤ vl (τ.2.2 46) r) ∧ vl (τ.2.2 46) r < 2 ^ j
/-- noughts at the top go -/
theorem dr_18 {na nb bit j : Nat} {Q : Int32 × MS → Prop} : ∀ (r : Nat) (N : Nat → Int32) (τ : MS), r ≤ 66 → N 1 = nI bit → NF σ τ → τ.2.2 42 = σ.2.2 42 → τ.2.2 43 = σ.2.2 43 → τ.1 84 = nI na → τ.1 85 = nI nb → τ.1 89 = nI na → τ.1 90 = nI r → LM (τ.2.2 46) r → vl (τ.2.2 46) r < 2 ^ j → (∀ (r' : Nat) (N' : Nat → Int32) (τ' : MS), N' 1 = nI bit → DR σ τ' na nb r' j → Tm (fun k => x_divideRows k 19 N' τ') Q) → Tm (fun k => x_divideRows k 18 N τ) Q
  | 0, N, τ, hr, n1, hF, t42, t43, t84, t85, t89, t90, hL, hv, H => by
    refine Tm_suc (fun k => by rw [x_divideRows]) ?_
    rw [t90]
    exact Tm_ite (fun _ => H 0 N τ n1 ⟨hF, t42, t43, t84, t85, t89, t90, hL, Or.inl rfl, hv⟩) (fun q => absurd ((n_le0 (by decide)).mpr rfl) q)
  | r + 1, N, τ, hr, n1, hF, t42, t43, t84, t85, t89, t90, hL, hv, H => by
    refine Tm_suc (fun k => by rw [x_divideRows]) ?_
    rw [t90, show nI (r + 1) - 1 = nI r from n_sub (p := r + 1) (q := 1) (by omega) (by omega)]
    refine Tm_ite (fun q => absurd ((n_le0 (by omega)).mp q) (by omega)) (fun _ => ?_)
    refine Tm_chk (n_in (by omega) (by omega)) ?_
    rw [n_cl (p := r) (by omega)]
    refine Tm_ite (fun z => ?_) (fun z => H (r + 1) N τ n1 ⟨hF, t42, t43, t84, t85, t89, t90, hL, Or.inr ((vl_top hL).mpr z), hv⟩)
    have v1 : vl (τ.2.2 46) (r + 1) = vl (τ.2.2 46) r + dg (τ.2.2 46) r * 65536 ^ r := rfl
    exact dr_18 r N (mSc τ 90 (nI r)) (by omega) n1 (NF_tr hF (NF_sc (by decide))) t42 t43 t84 t85 t89 rfl (LM_mo hL (by omega)) (by show vl (τ.2.2 46) r < 2 ^ j; omega) H
/-- the divisor is taken off -/
theorem dr_12 {na nb bit j r : Nat} {Q : Int32 × MS → Prop} {R0 : Nat → Int32} (hr : r ≤ 66) (hnb : nb ≤ 64) (hB : LM (σ.2.2 43) nb) (hge : vl (σ.2.2 43) nb ≤ vl R0 r) (hR0 : vl R0 r < 2 ^ j)
    (H : ∀ (r' : Nat) (N' : Nat → Int32) (τ' : MS), N' 1 = nI bit → DR σ τ' na nb r' j → Tm (fun k => x_divideRows k 19 N' τ') Q) :
    ∀ (q k w : Nat) (N : Nat → Int32) (τ : MS), q + k = r → w ≤ 1 → N 1 = nI bit → N 3 = nI w → N 4 = nI k → NF σ τ → τ.2.2 42 = σ.2.2 42 → τ.2.2 43 = σ.2.2 43 → τ.1 84 = nI na → τ.1 85 = nI nb → τ.1 89 = nI na → τ.1 90 = nI r → LM (τ.2.2 46) r → (∀ i, k ≤ i → τ.2.2 46 i = R0 i) → vl (τ.2.2 46) k + vl (σ.2.2 43) (min k nb) = vl R0 k + w * 65536 ^ k → Tm (fun f => x_divideRows f 12 N τ) Q := by
  intro q
  induction q with
  | zero =>
    intro k w N τ hk hw n1 n3 n4 hF t42 t43 t84 t85 t89 t90 hL hold he
    refine Tm_suc (fun k => by rw [x_divideRows]) ?_
    rw [t90, n4]
    refine Tm_ite (fun _ => ?_) (fun q => absurd ((n_le (by omega) (by omega)).mpr (by omega)) q)
    have hk : k = r := by omega
    subst hk
    have hlt := vl_lt k hL
    have hble : vl (σ.2.2 43) (min k nb) ≤ vl (σ.2.2 43) nb := vl_mono (Nat.min_le_right _ _)
    have hv : vl (τ.2.2 46) k < 2 ^ j := by
      by_cases z : w = 0
      · rw [z, Nat.zero_mul] at he; omega
      · have : w = 1 := by omega
        rw [this, Nat.one_mul] at he; omega
    exact dr_18 k N τ hr n1 hF t42 t43 t84 t85 t89 t90 hL hv H
  | succ q ih =>
    intro k w N τ hk hw n1 n3 n4 hF t42 t43 t84 t85 t89 t90 hL hold he
    obtain ⟨x1, x2⟩ := LM_dg hL (i := k) (by omega)
    have xR : dg R0 k = dg (τ.2.2 46) k := by unfold dg; rw [hold k (Nat.le_refl _)]
    -- a limb
    have l14 : ∀ (y : Nat) (M : Nat → Int32), y ≤ 65535 → vl (σ.2.2 43) (min (k + 1) nb) = vl (σ.2.2 43) (min k nb) + y * 65536 ^ k → M 1 = nI bit → M 3 = nI w → M 4 = nI k → M 100 = nI y → M 101 = nI (dg (τ.2.2 46) k) → Tm (fun f => x_divideRows f 14 M τ) Q := by
      intro y M hy hmin m1 m3 m4 m100 m101
      obtain ⟨w', d', hw', hd', e1, e2, e3⟩ := n_bor x2 hy hw
      have l16 : ∀ M : Nat → Int32, M 1 = nI bit → M 4 = nI k → M 5 = nI (dg (τ.2.2 46) k) - nI y - nI w → M 100 = nI w' → Tm (fun f => x_divideRows f 16 M τ) Q := by
        intro M m1 m4 m5 m100
        refine Tm_suc (fun k => by rw [x_divideRows]) ?_
        rw [m4]
        refine Tm_chk (n_in (by omega) (by omega)) ?_
        rw [n_cl (p := k) (by omega), m5, e1]
        show Tm (fun f => x_divideRows f 17 (upd M 3 (M 100)) (mAr τ 46 k (nI d'))) _
        refine Tm_suc (fun k => by rw [x_divideRows]) ?_
        refine ih (k + 1) w' _ _ (by omega) hw' m1 m100 (by show M 4 + 1 = _; rw [m4, n_add1]) (NF_tr hF (NF_ar (by decide))) (by rw [mAr_o (by decide)]; exact t42) (by rw [mAr_o (by decide)]; exact t43) t84 t85 t89 t90 (by rw [mAr_s]; exact LM_upd hL ⟨d', hd', rfl⟩) (fun i hi => by rw [mAr_s, upd_other (by omega)]; exact hold i (by omega)) ?_
        have v1 : vl ((mAr τ 46 k (nI d')).2.2 46) (k + 1) = vl (τ.2.2 46) k + d' * 65536 ^ k := by
          rw [mAr_s]
          show vl (upd (τ.2.2 46) k (nI d')) k + dg (upd (τ.2.2 46) k (nI d')) k * 65536 ^ k = _
          rw [vl_upd (Nat.le_refl _), dg_nI (d := d') upd_same (by omega)]
        have v2 : vl R0 (k + 1) = vl R0 k + dg (τ.2.2 46) k * 65536 ^ k := by
          show vl R0 k + dg R0 k * 65536 ^ k = _
          rw [xR]
        rw [v1, v2, hmin, Nat.pow_succ]
        have e4 : (d' + y + w) * 65536 ^ k = (dg (τ.2.2 46) k + w' * 65536) * 65536 ^ k := by rw [e2]
        rw [Nat.add_mul, Nat.add_mul, Nat.add_mul] at e4
        have e5 : w' * 65536 * 65536 ^ k = w' * (65536 ^ k * 65536) := by rw [Nat.mul_assoc, Nat.mul_comm 65536]
        rw [e5] at e4
        omega
      refine Tm_suc (fun k => by rw [x_divideRows]) ?_
      rw [m101, m100, m3]
      refine Tm_ite (fun z => ?_) (fun z => ?_)
      · refine Tm_suc (fun k => by rw [x_divideRows]) ?_
        exact l16 _ m1 m4 rfl (by rw [e3.mp z]; rfl)
      · refine l16 _ m1 m4 rfl ?_
        have : w' = 1 := by
          by_cases c : w' = 0
          · exact absurd (e3.mpr c) z
          · omega
        rw [this]; rfl
    refine Tm_suc (fun k => by rw [x_divideRows]) ?_
    rw [t90, n4, t85]
    refine Tm_ite (fun q => absurd ((n_le (by omega) (by omega)).mp q) (by omega)) (fun _ => ?_)
    refine Tm_chk (n_in (by omega) (by omega)) ?_
    rw [n_cl (p := k) (by omega)]
    refine Tm_ite (fun z => ?_) (fun z => ?_)
    · have z := (n_le (by omega) (by omega)).mp z
      refine Tm_suc (fun k => by rw [x_divideRows]) ?_
      exact l14 0 _ (by decide) (by rw [Nat.min_eq_right (by omega), Nat.min_eq_right (by omega)]; omega) n1 n3 n4 rfl x1
    · have z : k < nb := by
        by_cases c : nb ≤ k
        · exact absurd ((n_le (by omega) (by omega)).mpr c) z
        · omega
      obtain ⟨y1, y2⟩ := LM_dg hB (i := k) z
      refine Tm_chk (fun z => ?_) ?_
      · rcases z with z | z
        · have := (n_lt (q := 0) (by omega) (by decide)).mp z
          omega
        · omega
      exact l14 (dg (σ.2.2 43) k) _ y2 (by rw [Nat.min_eq_left (by omega), Nat.min_eq_left (by omega)]; rfl) n1 n3 n4 (by show τ.2.2 43 k = _; rw [t43]; exact y1) x1
/-- one bit more -/
theorem dr_7 {na nb bit j r c0 : Nat} {Q : Int32 × MS → Prop} {R0 : Nat → Int32} (hr : r ≤ 65) (hnb : nb ≤ 64) (hB : LM (σ.2.2 43) nb) (hz : r = 0 ∨ 65536 ^ (r - 1) ≤ vl R0 r) (hR0 : vl R0 r < 2 ^ j) (hc0 : c0 ≤ 1)
    (H19 : ∀ (r' : Nat) (N' : Nat → Int32) (τ' : MS), N' 1 = nI bit → DR σ τ' na nb r' (j + 1) → Tm (fun k => x_divideRows k 19 N' τ') Q)
    (H20 : ∀ (r' : Nat) (N' : Nat → Int32) (τ' : MS), N' 1 = nI bit → DR σ τ' na nb r' (j + 1) → Tm (fun k => x_divideRows k 20 N' τ') Q) :
    ∀ (q k c : Nat) (N : Nat → Int32) (τ : MS), q + k = r → c ≤ 1 → N 1 = nI bit → N 2 = nI c → N 3 = nI k → NF σ τ → τ.2.2 42 = σ.2.2 42 → τ.2.2 43 = σ.2.2 43 → τ.1 84 = nI na → τ.1 85 = nI nb → τ.1 89 = nI na → τ.1 90 = nI r → LM (τ.2.2 46) r → (∀ i, k ≤ i → τ.2.2 46 i = R0 i) → vl (τ.2.2 46) k + c * 65536 ^ k = 2 * vl R0 k + c0 → Tm (fun f => x_divideRows f 7 N τ) Q := by
  intro q
  induction q with
  | zero =>
    intro k c N τ hk hc n1 n2 n3 hF t42 t43 t84 t85 t89 t90 hL hold he
    have hk : k = r := by omega
    subst hk
    have hpw : 2 ^ (j + 1) = 2 * 2 ^ j := by rw [Nat.pow_succ, Nat.mul_comm]
    -- behind the shift
    have l11 : ∀ (r' : Nat) (N : Nat → Int32) (τ : MS), r' ≤ 66 → N 1 = nI bit → DR σ τ na nb r' (j + 1) → Tm (fun f => x_divideRows f 11 N τ) Q := by
      intro r' N τ hr' n1 hD
      have hD0 := hD
      obtain ⟨d1, d2, d3, d4, d5, d6, d7, d8, d9, d10⟩ := hD
      refine Tm_suc (fun k => by rw [x_divideRows]) ?_
      rw [d7, d5]
      refine Tm_ob (s_cmpR46v (n := r') (m := nb) (by omega) (by omega) d8 (by rw [d3]; exact hB) d9 rfl rfl) (fun r1 hr1 => ?_)
      obtain ⟨e1, e2⟩ := hr1
      rw [e1]
      refine Tm_ite (fun _ => H20 r' N τ n1 hD0) (fun z => ?_)
      have e2 := e2.resolve_left z
      rw [d3] at e2
      refine dr_12 (r := r') (R0 := τ.2.2 46) hr' hnb hB e2 d10 H19 r' 0 0 _ τ (by omega) (by decide) n1 rfl rfl d1 d2 d3 d4 d5 d6 d7 d8 (fun _ _ => rfl) ?_
      rw [Nat.zero_mul]
      show 0 + vl (σ.2.2 43) (min 0 nb) = 0 + 0
      rw [Nat.min_eq_left (Nat.zero_le _)]; rfl
    refine Tm_suc (fun k => by rw [x_divideRows]) ?_
    rw [t90, n3]
    refine Tm_ite (fun _ => ?_) (fun q => absurd ((n_le (by omega) (by omega)).mpr (by omega)) q)
    refine Tm_suc (fun k => by rw [x_divideRows]) ?_
    rw [n2, t90]
    refine Tm_ite (fun z => ?_) (fun z => ?_)
    · have z := (n_le0 (by omega)).mp z
      rw [z, Nat.zero_mul] at he
      refine l11 k N τ (by omega) n1 ⟨hF, t42, t43, t84, t85, t89, t90, hL, ?_, by omega⟩
      rcases hz with hz | hz
      · exact Or.inl hz
      · exact Or.inr (by omega)
    · have z : c = 1 := by
        by_cases y : c = 0
        · exact absurd ((n_le0 (by omega)).mpr y) z
        · omega
      rw [z, Nat.one_mul] at he
      refine Tm_chk (n_in (by omega) (by omega)) ?_
      rw [n_cl (p := k) (by omega), z]
      show Tm (fun f => x_divideRows f 10 N (mAr τ 46 k (nI 1))) _
      refine Tm_suc (fun k => by rw [x_divideRows]) ?_
      show Tm (fun f => x_divideRows f 11 N (mSc (mAr τ 46 k (nI 1)) 90 (τ.1 90 + 1))) _
      rw [t90, n_add1]
      have v1 : vl ((mAr τ 46 k (nI 1)).2.2 46) (k + 1) = vl (τ.2.2 46) k + 65536 ^ k := by
        rw [mAr_s]
        show vl (upd (τ.2.2 46) k (nI 1)) k + dg (upd (τ.2.2 46) k (nI 1)) k * 65536 ^ k = _
        rw [vl_upd (Nat.le_refl _), dg_nI (d := 1) upd_same (by decide), Nat.one_mul]
      refine l11 (k + 1) N _ (by omega) n1 ⟨NF_tr hF (NF_tr (NF_ar (by decide)) (NF_sc (by decide))), ?_, ?_, t84, t85, t89, rfl, ?_, Or.inr ?_, ?_⟩
      · show (mAr τ 46 k (nI 1)).2.2 42 = _
        rw [mAr_o (by decide)]; exact t42
      · show (mAr τ 46 k (nI 1)).2.2 43 = _
        rw [mAr_o (by decide)]; exact t43
      · show LM ((mAr τ 46 k (nI 1)).2.2 46) (k + 1)
        rw [mAr_s]; exact LM_suc hL ⟨1, by decide, rfl⟩
      · show 65536 ^ k ≤ vl ((mAr τ 46 k (nI 1)).2.2 46) (k + 1)
        rw [v1]; omega
      · show vl ((mAr τ 46 k (nI 1)).2.2 46) (k + 1) < _
        rw [v1]; omega
  | succ q ih =>
    intro k c N τ hk hc n1 n2 n3 hF t42 t43 t84 t85 t89 t90 hL hold he
    obtain ⟨x1, x2⟩ := LM_dg hL (i := k) (by omega)
    have xR : dg R0 k = dg (τ.2.2 46) k := by unfold dg; rw [hold k (Nat.le_refl _)]
    refine Tm_suc (fun k => by rw [x_divideRows]) ?_
    rw [t90, n3, n2]
    refine Tm_ite (fun q => absurd ((n_le (by omega) (by omega)).mp q) (by omega)) (fun _ => ?_)
    refine Tm_chk (n_in (by omega) (by omega)) ?_
    refine Tm_chk (n_in (by omega) (by omega)) ?_
    rw [n_cl (p := k) (by omega), x1, n_shl1 x2 hc, n_and _ (by omega)]
    show Tm (fun f => x_divideRows f 8 (upd N 4 (nI (2 * dg (τ.2.2 46) k + c))) (mAr τ 46 k (nI ((2 * dg (τ.2.2 46) k + c) % 65536)))) _
    refine Tm_suc (fun k => by rw [x_divideRows]) ?_
    have n4 : upd N 4 (nI (2 * dg (τ.2.2 46) k + c)) 4 >>> ((16 : Int32) &&& 31) = nI ((2 * dg (τ.2.2 46) k + c) / 65536) := by
      rw [upd_same]; exact n_shr _ (by omega)
    rw [n4]
    refine ih (k + 1) ((2 * dg (τ.2.2 46) k + c) / 65536) _ _ (by omega) (by omega) n1 rfl (by show N 3 + 1 = _; rw [n3, n_add1]) (NF_tr hF (NF_ar (by decide))) (by rw [mAr_o (by decide)]; exact t42) (by rw [mAr_o (by decide)]; exact t43) t84 t85 t89 t90 (by rw [mAr_s]; exact LM_upd hL ⟨_, by omega, rfl⟩) (fun i hi => by rw [mAr_s, upd_other (by omega)]; exact hold i (by omega)) ?_
    have v1 : vl ((mAr τ 46 k (nI ((2 * dg (τ.2.2 46) k + c) % 65536))).2.2 46) (k + 1) = vl (τ.2.2 46) k + ((2 * dg (τ.2.2 46) k + c) % 65536) * 65536 ^ k := by
      rw [mAr_s]
      show vl (upd (τ.2.2 46) k _) k + dg (upd (τ.2.2 46) k (nI ((2 * dg (τ.2.2 46) k + c) % 65536))) k * 65536 ^ k = _
      rw [vl_upd (Nat.le_refl _), dg_nI upd_same (by omega)]
    have v2 : vl R0 (k + 1) = vl R0 k + dg (τ.2.2 46) k * 65536 ^ k := by
      show vl R0 k + dg R0 k * 65536 ^ k = _
      rw [xR]
    rw [v1, v2, Nat.pow_succ]
    generalize hd : dg (τ.2.2 46) k = d at *
    have e2 : (2 * d + c) % 65536 + (2 * d + c) / 65536 * 65536 = 2 * d + c := by omega
    have e4 : ((2 * d + c) % 65536 + (2 * d + c) / 65536 * 65536) * 65536 ^ k = (2 * d + c) * 65536 ^ k := by rw [e2]
    rw [Nat.add_mul, Nat.add_mul, Nat.mul_assoc 2 d] at e4
    have e5 : (2 * d + c) / 65536 * 65536 * 65536 ^ k = (2 * d + c) / 65536 * (65536 ^ k * 65536) := by rw [Nat.mul_assoc, Nat.mul_comm 65536]
    rw [e5] at e4
    omega
theorem s_divideRows {na nb : Nat} (hna : na ≤ 64) (hnb : nb ≤ 64) (h84 : σ.1 84 = nI na) (h85 : σ.1 85 = nI nb) (hB : LM (σ.2.2 43) nb) (L : Nat → Int32) : Tm (fun k => x_divideRows k 0 L σ) (fun r => NF σ r.2 ∧ r.2.2.2 43 = σ.2.2 43 ∧ r.2.1 85 = nI nb ∧ r.2.1 89 = nI na ∧ ∃ e, e ≤ 65 ∧ r.2.1 90 = nI e ∧ LM (r.2.2.2 46) e) := by
  have l6 : ∀ (b r : Nat) (N : Nat → Int32) (τ : MS), b ≤ 16 * na → N 1 = nI b - 1 → DR σ τ na nb r (16 * na - b) → Tm (fun k => x_divideRows k 6 N τ) (fun r => NF σ r.2 ∧ r.2.2.2 43 = σ.2.2 43 ∧ r.2.1 85 = nI nb ∧ r.2.1 89 = nI na ∧ ∃ e, e ≤ 65 ∧ r.2.1 90 = nI e ∧ LM (r.2.2.2 46) e) := by
    intro b
    induction b with
    | zero =>
      intro r N τ hb n1 hD
      obtain ⟨d1, d2, d3, d4, d5, d6, d7, d8, d9, d10⟩ := hD
      have hr := vl_len d9 d10
      refine Tm_suc (fun k => by rw [x_divideRows]) ?_
      rw [n1]
      refine Tm_ite (fun _ => ?_) (fun z => absurd (show nI 0 - 1 < 0 by decide) z)
      refine Tm_suc (fun k => by rw [x_divideRows]) ?_
      exact Tm_some ⟨d1, d3, d5, d6, r, by omega, d7, d8⟩
    | succ b ih =>
      intro r N τ hb n1 hD
      obtain ⟨d1, d2, d3, d4, d5, d6, d7, d8, d9, d10⟩ := hD
      have hr := vl_len d9 d10
      rw [show nI (b + 1) - 1 = nI b from n_sub (p := b + 1) (q := 1) (by omega) (by omega)] at n1
      have ej : 16 * na - (b + 1) + 1 = 16 * na - b := by omega
      have H20 : ∀ (r' : Nat) (N' : Nat → Int32) (τ' : MS), N' 1 = nI b → DR σ τ' na nb r' (16 * na - (b + 1) + 1) → Tm (fun k => x_divideRows k 20 N' τ') (fun r => NF σ r.2 ∧ r.2.2.2 43 = σ.2.2 43 ∧ r.2.1 85 = nI nb ∧ r.2.1 89 = nI na ∧ ∃ e, e ≤ 65 ∧ r.2.1 90 = nI e ∧ LM (r.2.2.2 46) e) := fun r' N' τ' m1 hD' => by
        rw [ej] at hD'
        refine Tm_suc (fun k => by rw [x_divideRows]) ?_
        rw [m1]
        exact ih r' _ τ' (by omega) (by show nI b + (-1) = nI b - 1; exact (Int32.sub_eq_add_neg _ _).symm) hD'
      have H19 : ∀ (r' : Nat) (N' : Nat → Int32) (τ' : MS), N' 1 = nI b → DR σ τ' na nb r' (16 * na - (b + 1) + 1) → Tm (fun k => x_divideRows k 19 N' τ') (fun r => NF σ r.2 ∧ r.2.2.2 43 = σ.2.2 43 ∧ r.2.1 85 = nI nb ∧ r.2.1 89 = nI na ∧ ∃ e, e ≤ 65 ∧ r.2.1 90 = nI e ∧ LM (r.2.2.2 46) e) := fun r' N' τ' m1 hD' => by
        refine Tm_suc (fun k => by rw [x_divideRows]) ?_
        rw [m1, n_shr4 (by omega)]
        refine Tm_chk (n_in (by omega) (by omega)) ?_
        refine Tm_chk (n_in (by omega) (by omega)) ?_
        generalize (τ'.2.2 45 (nI (b / 16)).toNatClampNeg ||| (1 : Int32) <<< (nI b &&& 15 &&& 31)) = x
        show Tm (fun k => x_divideRows k 20 N' (mAr τ' 45 (nI (b / 16)).toNatClampNeg x)) _
        obtain ⟨q1, q2, q3, q4, q5, q6, q7, q8, q9, q10⟩ := hD'
        have q46 : (mAr τ' 45 (nI (b / 16)).toNatClampNeg x).2.2 46 = τ'.2.2 46 := mAr_o (by decide)
        refine H20 r' N' _ m1 ⟨NF_tr q1 (NF_ar (by decide)), (mAr_o (by decide)).trans q2, (mAr_o (by decide)).trans q3, q4, q5, q6, q7, ?_, ?_, ?_⟩
        · rw [q46]; exact q8
        · rw [q46]; exact q9
        · rw [q46]; exact q10
      refine Tm_suc (fun k => by rw [x_divideRows]) ?_
      rw [n1, n_shr4 (by omega)]
      refine Tm_ite (fun z => absurd ((n_lt (q := 0) (by omega) (by decide)).mp z) (by omega)) (fun _ => ?_)
      refine Tm_chk (n_in (by omega) (by omega)) ?_
      obtain ⟨c0, c1, c2⟩ := n_and1 (τ.2.2 42 (nI (b / 16)).toNatClampNeg >>> (nI b &&& 15 &&& 31))
      rw [c2]
      refine dr_7 (R0 := τ.2.2 46) (by omega) hnb hB d9 d10 c1 H19 H20 r 0 c0 _ τ (by omega) c1 n1 rfl rfl d1 d2 d3 d4 d5 d6 d7 d8 (fun _ _ => rfl) ?_
      show 0 + c0 * 1 = 2 * 0 + c0
      omega
  have l3 : ∀ (j i : Nat) (N : Nat → Int32) (τ : MS), j + i = na → N 1 = nI i → DR σ τ na nb 0 0 → Tm (fun k => x_divideRows k 3 N τ) (fun r => NF σ r.2 ∧ r.2.2.2 43 = σ.2.2 43 ∧ r.2.1 85 = nI nb ∧ r.2.1 89 = nI na ∧ ∃ e, e ≤ 65 ∧ r.2.1 90 = nI e ∧ LM (r.2.2.2 46) e) := by
    intro j
    induction j with
    | zero =>
      intro i N τ hi n1 hD
      have t84 := hD.2.2.2.1
      refine Tm_suc (fun k => by rw [x_divideRows]) ?_
      rw [t84, n1]
      refine Tm_ite (fun _ => ?_) (fun q => absurd ((n_le (by omega) (by omega)).mpr (by omega)) q)
      refine Tm_suc (fun k => by rw [x_divideRows]) ?_
      rw [t84, show (16 : Int32) * nI na = nI (16 * na) from n_mul16 hna]
      exact l6 (16 * na) 0 _ τ (Nat.le_refl _) rfl (by rw [Nat.sub_self]; exact hD)
    | succ j ih =>
      intro i N τ hi n1 hD
      have t84 := hD.2.2.2.1
      refine Tm_suc (fun k => by rw [x_divideRows]) ?_
      rw [t84, n1]
      refine Tm_ite (fun q => absurd ((n_le (by omega) (by omega)).mp q) (by omega)) (fun _ => ?_)
      refine Tm_chk (n_in (by omega) (by omega)) ?_
      rw [n_cl (p := i) (by omega)]
      show Tm (fun k => x_divideRows k 4 N (mAr τ 45 i 0)) _
      refine Tm_suc (fun k => by rw [x_divideRows]) ?_
      obtain ⟨q1, q2, q3, q4, q5, q6, q7, q8, q9, q10⟩ := hD
      exact ih (i + 1) _ _ (by omega) (by show N 1 + 1 = _; rw [n1, n_add1]) ⟨NF_tr q1 (NF_ar (by decide)), (mAr_o (by decide)).trans q2, (mAr_o (by decide)).trans q3, q4, q5, q6, q7, fun i hi => absurd hi (Nat.not_lt_zero i), Or.inl rfl, Nat.zero_lt_one⟩
  refine Tm_suc (fun k => by rw [x_divideRows]) ?_
  rw [h84]
  show Tm (fun k => x_divideRows k 1 L (mSc σ 89 (nI na))) _
  refine Tm_suc (fun k => by rw [x_divideRows]) ?_
  show Tm (fun k => x_divideRows k 2 L (mSc (mSc σ 89 (nI na)) 90 0)) _
  refine Tm_suc (fun k => by rw [x_divideRows]) ?_
  exact l3 na 0 _ _ (by omega) rfl ⟨NF_tr (NF_sc (by decide)) (NF_sc (by decide)), rfl, rfl, h84, h85, rfl, rfl, fun i hi => absurd hi (Nat.not_lt_zero i), Or.inl rfl, Nat.zero_lt_one⟩
end DIV
