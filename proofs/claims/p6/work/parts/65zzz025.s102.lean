/-! Products, powers of wholes (reference). -/
section MUL
variable {g : Nat → Prop} {l : List Nat} {B h t : Nat} {σ : MS}
theorem w_int {d : Nat} (h : d < 2147483648) : (nI d).toInt64.toInt = d := by
  rw [Int32.toInt_toInt64, n_int h]
/-- a step of a product: the carry stays small -/
theorem w_step {j : Int64} {c r a b : Nat} (hj : j.toInt = c) (hc : c ≤ 65535) (hr : r ≤ 65535) (ha : a ≤ 65535) (hb : b ≤ 65535) : ∃ c', c' ≤ 65535 ∧ ((j + ((nI r).toInt64 + (nI a).toInt64 * (nI b).toInt64)) >>> ((16 : Int32).toInt64 &&& 63)).toInt = (c' : Nat) := by
  have hab : a * b ≤ 65535 * 65535 := Nat.mul_le_mul ha hb
  have e1 : ((nI a).toInt64 * (nI b).toInt64).toInt = ((a * b : Nat) : Int) := by
    rw [Int64.toInt_mul, w_int (by omega), w_int (by omega), ← Int.natCast_mul]
    exact Int.bmod_eq_of_le (by omega) (by omega)
  have e2 : ((nI r).toInt64 + (nI a).toInt64 * (nI b).toInt64).toInt = ((r + a * b : Nat) : Int) := by
    rw [Int64.toInt_add, e1, w_int (by omega)]
    rw [← Int.natCast_add]
    exact Int.bmod_eq_of_le (by omega) (by omega)
  have e3 : (j + ((nI r).toInt64 + (nI a).toInt64 * (nI b).toInt64)).toInt = ((c + (r + a * b) : Nat) : Int) := by
    rw [Int64.toInt_add, e2, hj, ← Int.natCast_add]
    exact Int.bmod_eq_of_le (by omega) (by omega)
  refine ⟨(c + (r + a * b)) / 65536, by omega, ?_⟩
  rw [w_shr16, e3]
  omega
theorem w_small {j : Int64} {c : Nat} (hj : j.toInt = c) (hc : c ≤ 65535) : ∃ d, d ≤ 65535 ∧ j.toInt32 = nI d := by
  refine ⟨c, hc, ?_⟩
  rw [i_eq, Int64.toInt_toInt32, hj, n_int (by omega)]
  exact Int.bmod_eq_of_le (by omega) (by omega)
theorem s_multiply (hP : VP g l B h t σ) {a b n m : Nat} (hA : Wh σ a n) (hB : Wh σ b m) {L : Nat → Int32} {J : Nat → Int64} (h1 : L 1 = nI a) (h2 : L 2 = nI b) : Tm (fun k => x_multiply k 0 L J σ) (VO g B h t σ) := by
  obtain ⟨a1, a2, a3, a4, a5⟩ := hA
  refine Tm_suc (fun k => by rw [x_multiply]) ?_
  refine Tm_ob (s_loadA hP.1 a1 a2 a3 a4 a5 (by exact h1)) (fun r1 hr1 => ?_)
  obtain ⟨hF1, p84, pA, _, _⟩ := hr1
  have bS := hB.2.2.2.2.2
  obtain ⟨b1, b2, b3, b4, b5⟩ := Wh_NF hF1 hB
  refine Tm_ob (s_loadB (NF_HS hF1 hP.1) b1 b2 b3 b4 b5 (by exact h2)) (fun r2 hr2 => ?_)
  obtain ⟨hF2, p85, pB, q42, q84⟩ := hr2
  have hF := NF_tr hF1 hF2
  have s84 : r2.2.1 84 = nI (n - 1) := q84.trans p84
  have sA : LM (r2.2.2.2 42) (n - 1) := by rw [q42]; exact pA
  rw [s84, p85, n_add (by omega)]
  show Tm (fun k => x_multiply k 1 L J (mSc r2.2 86 (nI (n - 1 + (m - 1))))) _
  -- what holds all along
  have l10 : ∀ (N : Nat → Int32) (K : Nat → Int64) (τ : MS), N 1 = nI a → N 2 = nI b → NF σ τ → τ.1 86 = nI (n - 1 + (m - 1)) → LM (τ.2.2 44) (n - 1 + (m - 1)) → ((n = 1 ∨ m = 1) → ∀ i, i < n - 1 + (m - 1) → τ.2.2 44 i = 0) → Tm (fun k => x_multiply k 10 N K τ) (VO g B h t σ) := fun N K τ n1 n2 hF t86 hLM hZ => by
    refine Tm_suc (fun k => by rw [x_multiply]) ?_
    refine Tm_ob (s_signOf (NF_HS hF hP.1) (m := a) (by omega) (by exact n1)) (fun r3 hr3 => ?_)
    rw [hr3]
    refine Tm_ob (s_signOf (NF_HS hF hP.1) (m := b) (by omega) (by exact n2)) (fun r4 hr4 => ?_)
    rw [hr4, hF.2 28 (by decide)]
    refine VO_NF_Tm hF hP (Tm_ob (s_wholeOf (NF_VP hF hP) (by omega) t86 hLM _ ?_) (fun r hr => Tm_some hr))
    show SgO (σ.2.2 28 (a + 4) * σ.2.2 28 (b + 4)) _ _
    rcases a5.2 with q | q
    · rcases bS with p | p
      · exact Or.inl (Sg_mul q p)
      · exact Or.inr (hZ (Or.inr p.1))
    · exact Or.inr (hZ (Or.inl q.1))
  have l5 : ∀ (j i : Nat) (N : Nat → Int32) (K : Nat → Int64) (τ : MS), j + i = n - 1 → N 1 = nI a → N 2 = nI b → N 3 = nI i → NF σ τ → τ.1 84 = nI (n - 1) → τ.1 85 = nI (m - 1) → τ.1 86 = nI (n - 1 + (m - 1)) → LM (τ.2.2 42) (n - 1) → LM (τ.2.2 43) (m - 1) → LM (τ.2.2 44) (n - 1 + (m - 1)) → ((n = 1 ∨ m = 1) → ∀ i, i < n - 1 + (m - 1) → τ.2.2 44 i = 0) → Tm (fun k => x_multiply k 5 N K τ) (VO g B h t σ) := by
    intro j
    induction j with
    | zero =>
      intro i N K τ hi n1 n2 n3 hF t84 t85 t86 tA tB hLM hZ
      refine Tm_suc (fun k => by rw [x_multiply]) ?_
      rw [t84, n3]
      exact Tm_ite (fun _ => l10 N K τ n1 n2 hF t86 hLM hZ) (fun q => absurd ((n_le (by omega) (by omega)).mpr (by omega)) q)
    | succ j ih =>
      intro i N K τ hi n1 n2 n3 hF t84 t85 t86 tA tB hLM hZ
      have l6 : ∀ (q p : Nat) (N : Nat → Int32) (K : Nat → Int64) (c : Nat) (τ : MS), q + p = m - 1 → N 1 = nI a → N 2 = nI b → N 3 = nI i → N 6 = nI p → (K 4).toInt = c → c ≤ 65535 → (m = 1 → K 4 = 0) → NF σ τ → τ.1 84 = nI (n - 1) → τ.1 85 = nI (m - 1) → τ.1 86 = nI (n - 1 + (m - 1)) → LM (τ.2.2 42) (n - 1) → LM (τ.2.2 43) (m - 1) → LM (τ.2.2 44) (n - 1 + (m - 1)) → ((n = 1 ∨ m = 1) → ∀ i, i < n - 1 + (m - 1) → τ.2.2 44 i = 0) → Tm (fun k => x_multiply k 6 N K τ) (VO g B h t σ) := by
        intro q
        induction q with
        | zero =>
          intro p N K c τ hp n1 n2 n3 n6 k4 hc k0 hF t84 t85 t86 tA tB hLM hZ
          refine Tm_suc (fun k => by rw [x_multiply]) ?_
          rw [t85, n6]
          refine Tm_ite (fun _ => ?_) (fun q => absurd ((n_le (by omega) (by omega)).mpr (by omega)) q)
          refine Tm_suc (fun k => by rw [x_multiply]) ?_
          rw [n3, t85, n_add (by omega)]
          refine Tm_chk (n_in (by omega) (by omega)) ?_
          rw [n_cl (p := i + (m - 1)) (by omega)]
          show Tm (fun k => x_multiply k 9 N K (mAr τ 44 (i + (m - 1)) (K 4).toInt32)) _
          refine Tm_suc (fun k => by rw [x_multiply]) ?_
          refine ih (i + 1) _ K _ (by omega) n1 n2 (by show N 3 + 1 = _; rw [n3, n_add1]) (NF_tr hF (NF_ar (by decide))) t84 t85 t86 (by rw [mAr_o (by decide)]; exact tA) (by rw [mAr_o (by decide)]; exact tB) (by rw [mAr_s]; exact LM_upd hLM (w_small k4 hc)) (fun z u hu => ?_)
          rw [mAr_s]
          by_cases eu : u = i + (m - 1)
          · rw [eu, upd_same, k0 (by omega)]; rfl
          · rw [upd_other eu]; exact hZ z u hu
        | succ q ihq =>
          intro p N K c τ hp n1 n2 n3 n6 k4 hc k0 hF t84 t85 t86 tA tB hLM hZ
          refine Tm_suc (fun k => by rw [x_multiply]) ?_
          rw [t85, n6, n3, n_add (by omega)]
          refine Tm_ite (fun w => absurd ((n_le (by omega) (by omega)).mp w) (by omega)) (fun _ => ?_)
          refine Tm_chk (n_in (by omega) (by omega)) ?_
          refine Tm_chk (n_in (by omega) (by omega)) ?_
          refine Tm_chk (n_in (by omega) (by omega)) ?_
          refine Tm_chk (n_in (by omega) (by omega)) ?_
          rw [n_cl (p := i + p) (by omega), n_cl (p := i) (by omega), n_cl (p := p) (by omega)]
          obtain ⟨x, x1, x2⟩ := hLM (i + p) (by omega)
          obtain ⟨y, y1, y2⟩ := tA i (by omega)
          obtain ⟨z, z1, z2⟩ := tB p (by omega)
          rw [x2, y2, z2]
          obtain ⟨c', c1, c2⟩ := w_step k4 hc x1 y1 z1
          generalize K 4 + ((nI x).toInt64 + (nI y).toInt64 * (nI z).toInt64) = s at c2
          show Tm (fun k => x_multiply k 7 N (updW K 4 s) (mAr τ 44 (i + p) (s &&& 65535).toInt32)) _
          refine Tm_suc (fun k => by rw [x_multiply]) ?_
          exact ihq (p + 1) _ _ c' _ (by omega) n1 n2 n3 (by show N 6 + 1 = _; rw [n6, n_add1]) c2 c1 (fun z => by omega) (NF_tr hF (NF_ar (by decide))) t84 t85 t86 (by rw [mAr_o (by decide)]; exact tA) (by rw [mAr_o (by decide)]; exact tB) (by rw [mAr_s]; exact LM_upd hLM (w_and16 _)) (fun z => by omega)
      refine Tm_suc (fun k => by rw [x_multiply]) ?_
      rw [t84, n3]
      refine Tm_ite (fun q => absurd ((n_le (by omega) (by omega)).mp q) (by omega)) (fun _ => ?_)
      exact l6 (m - 1) 0 _ _ 0 τ (by omega) n1 n2 n3 rfl rfl (by decide) (fun _ => rfl) hF t84 t85 t86 tA tB hLM hZ
  have l2 : ∀ (j i : Nat) (N : Nat → Int32) (τ : MS), j + i = n - 1 + (m - 1) → N 1 = nI a → N 2 = nI b → N 3 = nI i → NF σ τ → τ.1 84 = nI (n - 1) → τ.1 85 = nI (m - 1) → τ.1 86 = nI (n - 1 + (m - 1)) → LM (τ.2.2 42) (n - 1) → LM (τ.2.2 43) (m - 1) → LM (τ.2.2 44) i → (∀ u, u < i → τ.2.2 44 u = 0) → Tm (fun k => x_multiply k 2 N J τ) (VO g B h t σ) := by
    intro j
    induction j with
    | zero =>
      intro i N τ hi n1 n2 n3 hF t84 t85 t86 tA tB hLM h0
      refine Tm_suc (fun k => by rw [x_multiply]) ?_
      rw [t86, n3]
      refine Tm_ite (fun _ => ?_) (fun q => absurd ((n_le (by omega) (by omega)).mpr (by omega)) q)
      refine Tm_suc (fun k => by rw [x_multiply]) ?_
      exact l5 (n - 1) 0 _ J τ (by omega) n1 n2 rfl hF t84 t85 t86 tA tB (LM_mo hLM (by omega)) (fun _ u hu => h0 u (by omega))
    | succ j ih =>
      intro i N τ hi n1 n2 n3 hF t84 t85 t86 tA tB hLM h0
      refine Tm_suc (fun k => by rw [x_multiply]) ?_
      rw [t86, n3]
      refine Tm_ite (fun q => absurd ((n_le (by omega) (by omega)).mp q) (by omega)) (fun _ => ?_)
      refine Tm_chk (n_in (by omega) (by omega)) ?_
      rw [n_cl (p := i) (by omega)]
      show Tm (fun k => x_multiply k 3 N J (mAr τ 44 i 0)) _
      refine Tm_suc (fun k => by rw [x_multiply]) ?_
      refine ih (i + 1) _ _ (by omega) n1 n2 (by show N 3 + 1 = _; rw [n3, n_add1]) (NF_tr hF (NF_ar (by decide))) t84 t85 t86 (by rw [mAr_o (by decide)]; exact tA) (by rw [mAr_o (by decide)]; exact tB) (by rw [mAr_s]; exact LM_suc hLM ⟨0, by decide, rfl⟩) (fun u hu => ?_)
      rw [mAr_s]
      by_cases eu : u = i
      · rw [eu, upd_same]
      · rw [upd_other eu]; exact h0 u (by omega)
  refine Tm_suc (fun k => by rw [x_multiply]) ?_
  exact l2 (n - 1 + (m - 1)) 0 _ _ (by omega) h1 h2 rfl (NF_tr hF (NF_sc (by decide))) s84 p85 rfl sA pB (fun i hi => absurd hi (Nat.not_lt_zero i)) (fun i hi => absurd hi (Nat.not_lt_zero i))
/-- rp by ra, into rc -/
theorem s_rowsTimes {p n : Nat} (hp : p ≤ 128) (hn : n ≤ 64) (h84 : σ.1 84 = nI n) (hA : LM (σ.2.2 42) n) (hR : LM (σ.2.2 47) p) {L : Nat → Int32} {J : Nat → Int64} (h1 : L 1 = nI p) : Tm (fun k => x_rowsTimes k 0 L J σ) (fun r => NF σ r.2 ∧ r.2.2.2 42 = σ.2.2 42 ∧ r.2.1 84 = nI n ∧ ∃ c, c ≤ p + n ∧ r.2.1 86 = nI c ∧ LM (r.2.2.2 44) c) := by
  have l10 : ∀ (c : Nat) (N : Nat → Int32) (K : Nat → Int64) (τ : MS), c ≤ p + n → NF σ τ → τ.2.2 42 = σ.2.2 42 → τ.1 84 = nI n → τ.1 86 = nI c → LM (τ.2.2 44) c → Tm (fun k => x_rowsTimes k 10 N K τ) (fun r => NF σ r.2 ∧ r.2.2.2 42 = σ.2.2 42 ∧ r.2.1 84 = nI n ∧ ∃ c, c ≤ p + n ∧ r.2.1 86 = nI c ∧ LM (r.2.2.2 44) c) := by
    intro c
    induction c with
    | zero =>
      intro N K τ hc hF t42 t84 t86 hLM
      refine Tm_suc (fun k => by rw [x_rowsTimes]) ?_
      rw [t86]
      refine Tm_ite (fun _ => ?_) (fun q => absurd ((n_le0 (by decide)).mpr rfl) q)
      refine Tm_suc (fun k => by rw [x_rowsTimes]) ?_
      exact Tm_some ⟨hF, t42, t84, 0, by omega, t86, hLM⟩
    | succ c ih =>
      intro N K τ hc hF t42 t84 t86 hLM
      refine Tm_suc (fun k => by rw [x_rowsTimes]) ?_
      rw [t86, show nI (c + 1) - 1 = nI c from n_sub (p := c + 1) (q := 1) (by omega) (by omega)]
      refine Tm_ite (fun q => absurd ((n_le0 (by omega)).mp q) (by omega)) (fun _ => ?_)
      refine Tm_chk (n_in (by omega) (by omega)) ?_
      refine Tm_ite (fun _ => ?_) (fun _ => ?_)
      · exact ih N K (mSc τ 86 (nI c)) (by omega) (NF_tr hF (NF_sc (by decide))) t42 t84 rfl (LM_mo hLM (by omega))
      · refine Tm_suc (fun k => by rw [x_rowsTimes]) ?_
        exact Tm_some ⟨hF, t42, t84, c + 1, hc, t86, hLM⟩
  have l5 : ∀ (j i : Nat) (N : Nat → Int32) (K : Nat → Int64) (τ : MS), j + i = p → N 1 = nI p → N 2 = nI i → NF σ τ → τ.2.2 42 = σ.2.2 42 → τ.2.2 47 = σ.2.2 47 → τ.1 84 = nI n → τ.1 86 = nI (p + n) → LM (τ.2.2 44) (p + n) → Tm (fun k => x_rowsTimes k 5 N K τ) (fun r => NF σ r.2 ∧ r.2.2.2 42 = σ.2.2 42 ∧ r.2.1 84 = nI n ∧ ∃ c, c ≤ p + n ∧ r.2.1 86 = nI c ∧ LM (r.2.2.2 44) c) := by
    intro j
    induction j with
    | zero =>
      intro i N K τ hi n1 n2 hF t42 t47 t84 t86 hLM
      refine Tm_suc (fun k => by rw [x_rowsTimes]) ?_
      rw [n1, n2]
      exact Tm_ite (fun _ => l10 (p + n) N K τ (Nat.le_refl _) hF t42 t84 t86 hLM) (fun q => absurd ((n_le (by omega) (by omega)).mpr (by omega)) q)
    | succ j ih =>
      intro i N K τ hi n1 n2 hF t42 t47 t84 t86 hLM
      have l6 : ∀ (q e : Nat) (N : Nat → Int32) (K : Nat → Int64) (c : Nat) (τ : MS), q + e = n → N 1 = nI p → N 2 = nI i → N 5 = nI e → (K 3).toInt = c → c ≤ 65535 → NF σ τ → τ.2.2 42 = σ.2.2 42 → τ.2.2 47 = σ.2.2 47 → τ.1 84 = nI n → τ.1 86 = nI (p + n) → LM (τ.2.2 44) (p + n) → Tm (fun k => x_rowsTimes k 6 N K τ) (fun r => NF σ r.2 ∧ r.2.2.2 42 = σ.2.2 42 ∧ r.2.1 84 = nI n ∧ ∃ c, c ≤ p + n ∧ r.2.1 86 = nI c ∧ LM (r.2.2.2 44) c) := by
        intro q
        induction q with
        | zero =>
          intro e N K c τ he n1 n2 n5 k3 hc hF t42 t47 t84 t86 hLM
          refine Tm_suc (fun k => by rw [x_rowsTimes]) ?_
          rw [t84, n5]
          refine Tm_ite (fun _ => ?_) (fun q => absurd ((n_le (by omega) (by omega)).mpr (by omega)) q)
          refine Tm_suc (fun k => by rw [x_rowsTimes]) ?_
          rw [n2, t84, n_add (by omega)]
          refine Tm_chk (n_in (by omega) (by omega)) ?_
          rw [n_cl (p := i + n) (by omega)]
          show Tm (fun k => x_rowsTimes k 9 N K (mAr τ 44 (i + n) (K 3).toInt32)) _
          refine Tm_suc (fun k => by rw [x_rowsTimes]) ?_
          exact ih (i + 1) _ K _ (by omega) n1 (by show N 2 + 1 = _; rw [n2, n_add1]) (NF_tr hF (NF_ar (by decide))) (by rw [mAr_o (by decide)]; exact t42) (by rw [mAr_o (by decide)]; exact t47) t84 t86 (by rw [mAr_s]; exact LM_upd hLM (w_small k3 hc))
        | succ q ihq =>
          intro e N K c τ he n1 n2 n5 k3 hc hF t42 t47 t84 t86 hLM
          refine Tm_suc (fun k => by rw [x_rowsTimes]) ?_
          rw [t84, n5, n2, n_add (by omega)]
          refine Tm_ite (fun w => absurd ((n_le (by omega) (by omega)).mp w) (by omega)) (fun _ => ?_)
          refine Tm_chk (n_in (by omega) (by omega)) ?_
          refine Tm_chk (n_in (by omega) (by omega)) ?_
          refine Tm_chk (n_in (by omega) (by omega)) ?_
          refine Tm_chk (n_in (by omega) (by omega)) ?_
          rw [n_cl (p := i + e) (by omega), n_cl (p := i) (by omega), n_cl (p := e) (by omega)]
          obtain ⟨x, x1, x2⟩ := hLM (i + e) (by omega)
          obtain ⟨y, y1, y2⟩ := hR i (by omega)
          obtain ⟨z, z1, z2⟩ := hA e (by omega)
          rw [x2, t47, t42, y2, z2]
          obtain ⟨c', c1, c2⟩ := w_step k3 hc x1 y1 z1
          generalize K 3 + ((nI x).toInt64 + (nI y).toInt64 * (nI z).toInt64) = s at c2
          show Tm (fun k => x_rowsTimes k 7 N (updW K 3 s) (mAr τ 44 (i + e) (s &&& 65535).toInt32)) _
          refine Tm_suc (fun k => by rw [x_rowsTimes]) ?_
          exact ihq (e + 1) _ _ c' _ (by omega) n1 n2 (by show N 5 + 1 = _; rw [n5, n_add1]) c2 c1 (NF_tr hF (NF_ar (by decide))) (by rw [mAr_o (by decide)]; exact t42) (by rw [mAr_o (by decide)]; exact t47) t84 t86 (by rw [mAr_s]; exact LM_upd hLM (w_and16 _))
      refine Tm_suc (fun k => by rw [x_rowsTimes]) ?_
      rw [n1, n2]
      refine Tm_ite (fun q => absurd ((n_le (by omega) (by omega)).mp q) (by omega)) (fun _ => ?_)
      exact l6 n 0 _ _ 0 τ (by omega) n1 n2 rfl rfl (by decide) hF t42 t47 t84 t86 hLM
  have l2 : ∀ (j i : Nat) (N : Nat → Int32) (τ : MS), j + i = p + n → N 1 = nI p → N 2 = nI i → NF σ τ → τ.2.2 42 = σ.2.2 42 → τ.2.2 47 = σ.2.2 47 → τ.1 84 = nI n → τ.1 86 = nI (p + n) → LM (τ.2.2 44) i → Tm (fun k => x_rowsTimes k 2 N J τ) (fun r => NF σ r.2 ∧ r.2.2.2 42 = σ.2.2 42 ∧ r.2.1 84 = nI n ∧ ∃ c, c ≤ p + n ∧ r.2.1 86 = nI c ∧ LM (r.2.2.2 44) c) := by
    intro j
    induction j with
    | zero =>
      intro i N τ hi n1 n2 hF t42 t47 t84 t86 hLM
      refine Tm_suc (fun k => by rw [x_rowsTimes]) ?_
      rw [t86, n2]
      refine Tm_ite (fun _ => ?_) (fun q => absurd ((n_le (by omega) (by omega)).mpr (by omega)) q)
      refine Tm_suc (fun k => by rw [x_rowsTimes]) ?_
      exact l5 p 0 _ J τ (by omega) n1 rfl hF t42 t47 t84 t86 (LM_mo hLM (by omega))
    | succ j ih =>
      intro i N τ hi n1 n2 hF t42 t47 t84 t86 hLM
      refine Tm_suc (fun k => by rw [x_rowsTimes]) ?_
      rw [t86, n2]
      refine Tm_ite (fun q => absurd ((n_le (by omega) (by omega)).mp q) (by omega)) (fun _ => ?_)
      refine Tm_chk (n_in (by omega) (by omega)) ?_
      rw [n_cl (p := i) (by omega)]
      show Tm (fun k => x_rowsTimes k 3 N J (mAr τ 44 i 0)) _
      refine Tm_suc (fun k => by rw [x_rowsTimes]) ?_
      exact ih (i + 1) _ _ (by omega) n1 (by show N 2 + 1 = _; rw [n2, n_add1]) (NF_tr hF (NF_ar (by decide))) (by rw [mAr_o (by decide)]; exact t42) (by rw [mAr_o (by decide)]; exact t47) t84 t86 (by rw [mAr_s]; exact LM_suc hLM ⟨0, by decide, rfl⟩)
  refine Tm_suc (fun k => by rw [x_rowsTimes]) ?_
  rw [h1, h84, n_add (by omega)]
  show Tm (fun k => x_rowsTimes k 1 L J (mSc σ 86 (nI (p + n)))) _
  refine Tm_suc (fun k => by rw [x_rowsTimes]) ?_
  exact l2 (p + n) 0 _ _ (by omega) h1 rfl (NF_sc (by decide)) rfl rfl h84 rfl (fun i hi => absurd hi (Nat.not_lt_zero i))
end MUL
