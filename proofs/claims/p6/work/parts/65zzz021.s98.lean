/-! Limbs of 16 bits; wholes are loaded and made (reference). -/
def LM (f : Nat → Int32) (n : Nat) : Prop := ∀ i, i < n → ∃ d, d ≤ 65535 ∧ f i = nI d
theorem n_ofbv (x : Int32) : x = nI x.toBitVec.toNat := by
  refine Int32.toBitVec_inj.mp ?_
  show x.toBitVec = (Int32.ofNat x.toBitVec.toNat).toBitVec
  rw [Int32.toBitVec_ofNat']
  simp
theorem n_ofpos {x : Int32} (h : 0 ≤ x.toInt) : x = nI x.toInt.toNat := by
  have hb := i_bd x
  rw [i_eq, n_int (by omega)]
  omega
theorem n_and16 (x : Int32) : ∃ d, d ≤ 65535 ∧ x &&& 65535 = nI d := by
  refine ⟨(x &&& 65535).toBitVec.toNat, ?_, n_ofbv _⟩
  rw [Int32.toBitVec_and, BitVec.toNat_and]
  exact Nat.and_le_right
theorem w_and16 (x : Int64) : ∃ d, d ≤ 65535 ∧ (x &&& 65535).toInt32 = nI d := by
  rw [Int64.toInt32_and]
  exact n_and16 x.toInt32
theorem i_shr16 (x : Int32) : (x >>> ((16 : Int32) &&& 31)).toInt = x.toInt / 65536 := by
  show (x.toBitVec.sshiftRight' (((16 : Int32) &&& 31).toBitVec.smod 32)).toInt = _
  rw [BitVec.toInt_sshiftRight', show (((16 : Int32) &&& 31).toBitVec.smod 32).toNat = 16 from by decide, Int.shiftRight_eq_div_pow]
  rfl
theorem w_shr16 (x : Int64) : (x >>> ((16 : Int32).toInt64 &&& 63)).toInt = x.toInt / 65536 := by
  show (x.toBitVec.sshiftRight' (((16 : Int32).toInt64 &&& 63).toBitVec.smod 64)).toInt = _
  rw [BitVec.toInt_sshiftRight', show (((16 : Int32).toInt64 &&& 63).toBitVec.smod 64).toNat = 16 from by decide, Int.shiftRight_eq_div_pow]
  rfl
theorem n_shr16 (x : Int32) (h : ¬ x >>> ((16 : Int32) &&& 31) ≤ 0) : ∃ d, d ≤ 65535 ∧ x >>> ((16 : Int32) &&& 31) = nI d := by
  have e := i_shr16 x
  have hb := i_bd x
  have h0 : ¬ (x >>> ((16 : Int32) &&& 31)).toInt ≤ 0 := fun z => h (i_le.mpr z)
  exact ⟨_, by omega, n_ofpos (by omega)⟩
/-- limbs: one more, one anew -/
theorem LM_upd {f : Nat → Int32} {n i : Nat} {x : Int32} (h : LM f n) (hx : ∃ d, d ≤ 65535 ∧ x = nI d) : LM (upd f i x) n := fun j hj => by
  by_cases e : j = i
  · rw [e, upd_same]; exact hx
  · rw [upd_other e]; exact h j hj
theorem LM_suc {f : Nat → Int32} {n : Nat} {x : Int32} (h : LM f n) (hx : ∃ d, d ≤ 65535 ∧ x = nI d) : LM (upd f n x) (n + 1) := fun j hj => by
  by_cases e : j = n
  · rw [e, upd_same]; exact hx
  · rw [upd_other e]; exact h j (by omega)
theorem LM_mo {f : Nat → Int32} {n m : Nat} (h : LM f n) (hm : m ≤ n) : LM f m := fun j hj => h j (by omega)
/-- what reckoning with wholes leaves as it is -/
def NF (σ σ' : MS) : Prop := (∀ j, ¬ (84 ≤ j ∧ j ≤ 90) → σ'.1 j = σ.1 j) ∧ (∀ j, ¬ (42 ≤ j ∧ j ≤ 47) → σ'.2.2 j = σ.2.2 j)
theorem NF_rf {σ : MS} : NF σ σ := ⟨fun _ _ => rfl, fun _ _ => rfl⟩
theorem NF_tr {σ τ υ : MS} (h : NF σ τ) (k : NF τ υ) : NF σ υ := ⟨fun j hj => (k.1 j hj).trans (h.1 j hj), fun j hj => (k.2 j hj).trans (h.2 j hj)⟩
theorem NF_sc {j : Nat} {σ : MS} {x : Int32} (hj : 84 ≤ j ∧ j ≤ 90) : NF σ (mSc σ j x) := ⟨fun i hi => upd_other (by omega), fun _ _ => rfl⟩
theorem NF_ar {j i : Nat} {σ : MS} {x : Int32} (hj : 42 ≤ j ∧ j ≤ 47) : NF σ (mAr σ j i x) := ⟨fun _ _ => rfl, fun k hk => mAr_o (by omega)⟩
theorem NF_FW {t : Nat} {σ τ : MS} (h : NF σ τ) : FW t σ τ := ⟨fun j hj => h.1 j (by omega), fun j hj => h.2 j (by omega), fun i _ => by rw [h.2 29 (by decide)]⟩
section WHO
variable {g : Nat → Prop} {l : List Nat} {B h t : Nat} {σ : MS}
theorem NF_HS {τ : MS} (hN : NF σ τ) (hS : HS g l B h σ) : HS g l B h τ := HS_c hS (hN.1 54 (by decide)) (hN.1 55 (by decide)) (hN.2 28 (by decide))
theorem NF_VP {τ : MS} (hN : NF σ τ) (hP : VP g l B h t σ) : VP g l B h t τ := ⟨NF_HS hN hP.1, (hN.1 59 (by decide)).trans hP.2.1, hP.2.2.1, by unfold ErB; rw [hN.1 56 (by decide)]; exact hP.2.2.2⟩
theorem VO_NF {τ : MS} {r : Int32 × MS} (hN : NF σ τ) (hP : VP g l B h t σ) (b : VO g B h t τ r) : VO g B h t σ r := by
  refine VO_tr (g1 := g) (l1 := l) (h1 := h) ⟨NF_HS hN hP.1, fun _ z => z, Nat.le_refl _, fun i _ _ => by rw [hN.2 28 (by decide)]⟩ (NF_FW hN) (fun z => ?_) b
  rw [hN.1 56 (by decide)]; exact z
/-- a whole that is good: how many limbs -/
theorem GW {v k n s u : Nat} (hG : GOn (σ.2.2 28) g v k n s u) (hk : k = 2) : 1 ≤ n ∧ n ≤ 65 ∧ WHk (σ.2.2 28) v n := by
  obtain ⟨a, b, c, d⟩ := hG.2.2.2.2.2.2.2.2.1 hk
  exact ⟨a, b, d⟩
theorem s_loadA (hS : HS g l B h σ) {v n : Nat} (hn : σ.2.2 28 (v + 1) = nI n) (h1 : 1 ≤ n) (h65 : n ≤ 65) (hv : v + 4 + n ≤ 1740000) (hl : WHk (σ.2.2 28) v n) {L : Nat → Int32} (hL : L 1 = nI v) : Tm (fun k => x_loadA k 0 L σ) (fun r => NF σ r.2 ∧ r.2.1 84 = nI (n - 1) ∧ LM (r.2.2.2 42) (n - 1) ∧ (∀ j, j ≠ 42 → r.2.2.2 j = σ.2.2 j) ∧ (∀ j, j ≠ 84 → r.2.1 j = σ.1 j)) := by
  have l2 : ∀ (j i : Nat) (N : Nat → Int32) (τ : MS), j + i = n - 1 → N 1 = nI v → N 2 = nI i → NF σ τ → τ.1 84 = nI (n - 1) → LM (τ.2.2 42) i → (∀ j, j ≠ 42 → τ.2.2 j = σ.2.2 j) → (∀ j, j ≠ 84 → τ.1 j = σ.1 j) → Tm (fun k => x_loadA k 2 N τ) (fun r => NF σ r.2 ∧ r.2.1 84 = nI (n - 1) ∧ LM (r.2.2.2 42) (n - 1) ∧ (∀ j, j ≠ 42 → r.2.2.2 j = σ.2.2 j) ∧ (∀ j, j ≠ 84 → r.2.1 j = σ.1 j)) := by
    intro j
    induction j with
    | zero =>
      intro i N τ hi n1 n2 hF t84 hLM t43 t85
      refine Tm_suc (fun k => by rw [x_loadA]) ?_
      rw [t84, n2]
      refine Tm_ite (fun _ => ?_) (fun z => absurd ((n_le (by omega) (by omega)).mpr (by omega)) z)
      refine Tm_suc (fun k => by rw [x_loadA]) ?_
      exact Tm_some ⟨hF, t84, by rw [show n - 1 = i by omega]; exact hLM, t43, t85⟩
    | succ j ih =>
      intro i N τ hi n1 n2 hF t84 hLM t43 t85
      refine Tm_suc (fun k => by rw [x_loadA]) ?_
      rw [t84, n2, n1, show nI v + 5 = nI (v + 5) from n_add (q := 5) (by omega), n_add (by omega)]
      refine Tm_ite (fun z => absurd ((n_le (by omega) (by omega)).mp z) (by omega)) (fun _ => ?_)
      refine Tm_chk (n_in (by omega) (by omega)) ?_
      refine Tm_chk (n_in (by omega) (by omega)) ?_
      rw [n_cl (p := i) (by omega), n_cl (p := v + 5 + i) (by omega), hF.2 28 (by decide)]
      show Tm (fun k => x_loadA k 3 N (mAr τ 42 i (σ.2.2 28 (v + 5 + i)))) _
      refine Tm_suc (fun k => by rw [x_loadA]) ?_
      exact ih (i + 1) _ _ (by omega) n1 (by show N 2 + 1 = _; rw [n2, n_add1]) (NF_tr hF (NF_ar (by decide))) t84 (by rw [mAr_s]; exact LM_suc hLM (hl.1 i (by omega))) (fun j hj => (mAr_o hj).trans (t43 j hj)) t85
  refine Tm_suc (fun k => by rw [x_loadA]) ?_
  rw [hL, n_add1]
  refine Tm_chk (n_in (by omega) (by omega)) ?_
  rw [n_cl (p := v + 1) (by omega), hn, show nI n - 1 = nI (n - 1) from n_sub (q := 1) (by omega) h1]
  show Tm (fun k => x_loadA k 1 L (mSc σ 84 (nI (n - 1)))) _
  refine Tm_suc (fun k => by rw [x_loadA]) ?_
  exact l2 (n - 1) 0 _ _ (by omega) hL rfl (NF_sc (by decide)) rfl (fun i hi => absurd hi (Nat.not_lt_zero i)) (fun _ _ => rfl) (fun j hj => upd_other hj)
theorem s_loadB (hS : HS g l B h σ) {v n : Nat} (hn : σ.2.2 28 (v + 1) = nI n) (h1 : 1 ≤ n) (h65 : n ≤ 65) (hv : v + 4 + n ≤ 1740000) (hl : WHk (σ.2.2 28) v n) {L : Nat → Int32} (hL : L 1 = nI v) : Tm (fun k => x_loadB k 0 L σ) (fun r => NF σ r.2 ∧ r.2.1 85 = nI (n - 1) ∧ LM (r.2.2.2 43) (n - 1) ∧ r.2.2.2 42 = σ.2.2 42 ∧ r.2.1 84 = σ.1 84) := by
  have l2 : ∀ (j i : Nat) (N : Nat → Int32) (τ : MS), j + i = n - 1 → N 1 = nI v → N 2 = nI i → NF σ τ → τ.1 85 = nI (n - 1) → LM (τ.2.2 43) i → τ.2.2 42 = σ.2.2 42 → τ.1 84 = σ.1 84 → Tm (fun k => x_loadB k 2 N τ) (fun r => NF σ r.2 ∧ r.2.1 85 = nI (n - 1) ∧ LM (r.2.2.2 43) (n - 1) ∧ r.2.2.2 42 = σ.2.2 42 ∧ r.2.1 84 = σ.1 84) := by
    intro j
    induction j with
    | zero =>
      intro i N τ hi n1 n2 hF t84 hLM t43 t85
      refine Tm_suc (fun k => by rw [x_loadB]) ?_
      rw [t84, n2]
      refine Tm_ite (fun _ => ?_) (fun z => absurd ((n_le (by omega) (by omega)).mpr (by omega)) z)
      refine Tm_suc (fun k => by rw [x_loadB]) ?_
      exact Tm_some ⟨hF, t84, by rw [show n - 1 = i by omega]; exact hLM, t43, t85⟩
    | succ j ih =>
      intro i N τ hi n1 n2 hF t84 hLM t43 t85
      refine Tm_suc (fun k => by rw [x_loadB]) ?_
      rw [t84, n2, n1, show nI v + 5 = nI (v + 5) from n_add (q := 5) (by omega), n_add (by omega)]
      refine Tm_ite (fun z => absurd ((n_le (by omega) (by omega)).mp z) (by omega)) (fun _ => ?_)
      refine Tm_chk (n_in (by omega) (by omega)) ?_
      refine Tm_chk (n_in (by omega) (by omega)) ?_
      rw [n_cl (p := i) (by omega), n_cl (p := v + 5 + i) (by omega), hF.2 28 (by decide)]
      show Tm (fun k => x_loadB k 3 N (mAr τ 43 i (σ.2.2 28 (v + 5 + i)))) _
      refine Tm_suc (fun k => by rw [x_loadB]) ?_
      exact ih (i + 1) _ _ (by omega) n1 (by show N 2 + 1 = _; rw [n2, n_add1]) (NF_tr hF (NF_ar (by decide))) t84 (by rw [mAr_s]; exact LM_suc hLM (hl.1 i (by omega))) (by rw [mAr_o (by decide)]; exact t43) t85
  refine Tm_suc (fun k => by rw [x_loadB]) ?_
  rw [hL, n_add1]
  refine Tm_chk (n_in (by omega) (by omega)) ?_
  rw [n_cl (p := v + 1) (by omega), hn, show nI n - 1 = nI (n - 1) from n_sub (q := 1) (by omega) h1]
  show Tm (fun k => x_loadB k 1 L (mSc σ 85 (nI (n - 1)))) _
  refine Tm_suc (fun k => by rw [x_loadB]) ?_
  exact l2 (n - 1) 0 _ _ (by omega) hL rfl (NF_sc (by decide)) rfl (fun i hi => absurd hi (Nat.not_lt_zero i)) rfl rfl
end WHO
