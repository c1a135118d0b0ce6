/-! Wholes are printed (reference). -/
def PrF (σ σ' : MS) : Prop := (∀ j, ¬ (j = 84 ∨ j = 93) → σ'.1 j = σ.1 j) ∧ (∀ j, ¬ (j = 42 ∨ j = 48 ∨ j = 49) → σ'.2.2 j = σ.2.2 j)
theorem PrF_rf {σ : MS} : PrF σ σ := ⟨fun _ _ => rfl, fun _ _ => rfl⟩
theorem PrF_tr {σ τ υ : MS} (h : PrF σ τ) (k : PrF τ υ) : PrF σ υ := ⟨fun j hj => (k.1 j hj).trans (h.1 j hj), fun j hj => (k.2 j hj).trans (h.2 j hj)⟩
theorem PrF_sc {j : Nat} {σ : MS} {x : Int32} (hj : j = 84 ∨ j = 93) : PrF σ (mSc σ j x) := ⟨fun i hi => upd_other (fun e => hi (e ▸ hj)), fun _ _ => rfl⟩
theorem PrF_ar {j i : Nat} {σ : MS} {x : Int32} (hj : j = 42 ∨ j = 48 ∨ j = 49) : PrF σ (mAr σ j i x) := ⟨fun _ _ => rfl, fun k hk => mAr_o (fun e => hk (e ▸ hj))⟩
theorem PrF_HS {g : Nat → Prop} {l : List Nat} {B h : Nat} {σ τ : MS} (hN : PrF σ τ) (hS : HS g l B h σ) : HS g l B h τ := HS_c hS (hN.1 54 (by decide)) (hN.1 55 (by decide)) (hN.2 28 (by decide))
/-- so many bytes more at the most -/
def PrO (σ : MS) (p q : Nat) (r : Int32 × MS) : Prop := PrF σ r.2 ∧ ∃ p', r.2.1 93 = nI p' ∧ p ≤ p' ∧ p' ≤ q
theorem s_put {σ : MS} {p : Nat} (h93 : σ.1 93 = nI p) (hp : p < 12000) (L : Nat → Int32) : Tm (fun k => x_put k 0 L σ) (fun r => PrF σ r.2 ∧ r.2.1 93 = nI (p + 1) ∧ r.2.2.2 49 = σ.2.2 49 ∧ r.2.2.2 42 = σ.2.2 42 ∧ r.2.1 84 = σ.1 84) := by
  refine Tm_suc (fun k => by rw [x_put]) ?_
  rw [h93]
  refine Tm_chk (n_in (by omega) (by omega)) ?_
  rw [n_cl (p := p) (by omega)]
  show Tm (fun k => x_put k 1 L (mAr σ 48 p (L 1))) _
  refine Tm_suc (fun k => by rw [x_put]) ?_
  refine Tm_some ⟨PrF_tr (PrF_ar (Or.inr (Or.inl rfl))) (PrF_sc (Or.inr rfl)), ?_, ?_, ?_, rfl⟩
  · show σ.1 93 + 1 = _
    rw [h93, n_add1]
  · show (mAr σ 48 p (L 1)).2.2 49 = _
    exact mAr_o (by decide)
  · show (mAr σ 48 p (L 1)).2.2 42 = _
    exact mAr_o (by decide)
theorem vl_set {f : Nat → Int32} {i y : Nat} (hy : y < 2147483648) : ∀ n : Nat, i < n → vl (upd f i (nI y)) n + dg f i * 65536 ^ i = vl f n + y * 65536 ^ i
  | 0, h => absurd h (Nat.not_lt_zero i)
  | n + 1, h => by
    show vl (upd f i (nI y)) n + dg (upd f i (nI y)) n * 65536 ^ n + dg f i * 65536 ^ i = vl f n + dg f n * 65536 ^ n + y * 65536 ^ i
    by_cases e : i = n
    · subst e
      rw [vl_upd (Nat.le_refl _), dg_nI upd_same hy]
      omega
    · have ih := vl_set (f := f) (i := i) hy n (by omega)
      have e2 : dg (upd f i (nI y)) n = dg f n := by unfold dg; rw [upd_other (by omega)]
      rw [e2]
      omega
theorem n_shl16 {c d : Nat} (hc : c ≤ 9) (hd : d ≤ 65535) : (nI c <<< ((16 : Int32) &&& 31)) ||| nI d = nI (c * 65536 + d) := by
  refine Int32.toBitVec_inj.mp ?_
  show (nI c).toBitVec <<< (((16 : Int32) &&& 31).toBitVec.smod 32) ||| (nI d).toBitVec = (nI (c * 65536 + d)).toBitVec
  apply BitVec.eq_of_toNat_eq
  have e : (((16 : Int32) &&& 31).toBitVec.smod 32) = 16#32 := by decide
  rw [e, BitVec.toNat_or, BitVec.shiftLeft_eq', BitVec.toNat_shiftLeft]
  show ((Int32.ofNat c).toBitVec.toNat <<< 16 % 2 ^ 32) ||| (Int32.ofNat d).toBitVec.toNat = (Int32.ofNat (c * 65536 + d)).toBitVec.toNat
  rw [Int32.toBitVec_ofNat', Int32.toBitVec_ofNat', Int32.toBitVec_ofNat']
  simp only [BitVec.toNat_ofNat]
  rw [Nat.mod_eq_of_lt (a := c) (by omega), Nat.mod_eq_of_lt (a := d) (by omega), Nat.mod_eq_of_lt (a := c * 65536 + d) (by omega), Nat.shiftLeft_eq]
  rw [Nat.mod_eq_of_lt (by omega)]
  have := Nat.two_pow_add_eq_or_of_lt (i := 16) (b := d) (by omega) c
  rw [show c * 2 ^ 16 = 2 ^ 16 * c from Nat.mul_comm _ _, ← this]
theorem n_mod10 {x : Nat} (hx : x < 2147483648) : nI x - nI x / 10 * 10 = nI (x % 10) ∧ nI x / 10 = nI (x / 10) := by
  have e : nI x / 10 = nI (x / 10) := n_div (q := 10) hx (by decide) (by decide)
  rw [e]
  have e2 : nI (x / 10) * 10 = nI (x / 10 * 10) := (Int32.ofNat_mul (x / 10) 10).symm
  rw [e2, n_sub (by omega) (by omega)]
  exact ⟨by congr 1; omega, rfl⟩
section PWH
variable {g : Nat → Prop} {l : List Nat} {B h : Nat} {σ : MS}
theorem s_putWhole (hS : HS g l B h σ) {v n p : Nat} (hW : Wh σ v n) (h93 : σ.1 93 = nI p) (hp : p + 5 * n + 2 ≤ 12000) {L : Nat → Int32} (h1 : L 1 = nI v) : Tm (fun k => x_putWhole k 0 L σ) (PrO σ p (p + 5 * (n - 1) + 2)) := by
  obtain ⟨w1, w2, w3, w4, w5⟩ := hW
  -- the digits, the last one first
  have l11 : ∀ (i q : Nat) (N : Nat → Int32) (τ : MS), i ≤ 400 → N 3 = nI i - 1 → PrF σ τ → τ.1 93 = nI q → p ≤ q → q + i ≤ p + 5 * (n - 1) + 2 → Tm (fun k => x_putWhole k 11 N τ) (PrO σ p (p + 5 * (n - 1) + 2)) := by
    intro i
    induction i with
    | zero =>
      intro q N τ hi n3 hF t93 hpq hq
      refine Tm_suc (fun k => by rw [x_putWhole]) ?_
      rw [n3]
      refine Tm_ite (fun _ => ?_) (fun z => absurd (show nI 0 - 1 < 0 by decide) z)
      refine Tm_suc (fun k => by rw [x_putWhole]) ?_
      exact Tm_some ⟨hF, q, t93, hpq, by omega⟩
    | succ i ih =>
      intro q N τ hi n3 hF t93 hpq hq
      rw [show nI (i + 1) - 1 = nI i from n_sub (p := i + 1) (q := 1) (by omega) (by omega)] at n3
      refine Tm_suc (fun k => by rw [x_putWhole]) ?_
      rw [n3]
      refine Tm_ite (fun z => absurd ((n_lt (q := 0) (by omega) (by decide)).mp z) (by omega)) (fun _ => ?_)
      refine Tm_chk (n_in (by omega) (by omega)) ?_
      refine Tm_ob (s_put t93 (by omega) _) (fun r hr => ?_)
      exact ih (q + 1) _ r.2 (by omega) (by show nI i + (-1) = nI i - 1; exact (Int32.sub_eq_add_neg _ _).symm) (PrF_tr hF hr.1) hr.2.1 (by omega) (by omega)
  have l9 : ∀ (m : Nat) (N : Nat → Int32) (τ : MS), m ≤ 5 * (n - 1) + 1 → m ≤ 400 → N 1 = nI v → N 2 = nI m → PrF σ τ → τ.1 93 = nI p → Tm (fun k => x_putWhole k 9 N τ) (PrO σ p (p + 5 * (n - 1) + 2)) := fun m N τ hm hm4 n1 n2 hF t93 => by
    have l10 : ∀ (q : Nat) (τ : MS), PrF σ τ → τ.1 93 = nI q → p ≤ q → q ≤ p + 1 → Tm (fun k => x_putWhole k 10 N τ) (PrO σ p (p + 5 * (n - 1) + 2)) := fun q τ hF t93 h1 h2 => by
      refine Tm_suc (fun k => by rw [x_putWhole]) ?_
      rw [n2]
      exact l11 m q _ τ hm4 rfl hF t93 h1 (by omega)
    refine Tm_suc (fun k => by rw [x_putWhole]) ?_
    refine Tm_ob (s_signOf (PrF_HS hF hS) (m := v) (by omega) (by exact n1)) (fun r hr => ?_)
    rw [hr]
    refine Tm_ite (fun _ => l10 p τ hF t93 (Nat.le_refl _) (by omega)) (fun _ => ?_)
    refine Tm_ob (s_put t93 (by omega) _) (fun r3 hr3 => ?_)
    exact l10 (p + 1) r3.2 (PrF_tr hF hr3.1) hr3.2.1 (by omega) (Nat.le_refl _)
  -- digit after digit
  have l2 : ∀ (e a m : Nat) (N : Nat → Int32) (τ : MS), e + m = 5 * (n - 1) → a ≤ 64 → N 1 = nI v → N 2 = nI m → PrF σ τ → τ.1 93 = nI p → τ.1 84 = nI a → LM (τ.2.2 42) a → vl (τ.2.2 42) a < 10 ^ e → (a = 0 ∨ 1 ≤ e) → Tm (fun k => x_putWhole k 2 N τ) (PrO σ p (p + 5 * (n - 1) + 2)) := by
    intro e
    induction e with
    | zero =>
      intro a m N τ hm ha n1 n2 hF t93 t84 hLM hv h0
      have ha0 : a = 0 := by omega
      refine Tm_suc (fun k => by rw [x_putWhole]) ?_
      rw [t84, ha0]
      exact Tm_ite (fun _ => l9 m N τ (by omega) (by omega) n1 n2 hF t93) (fun q => absurd ((n_le0 (by decide)).mpr rfl) q)
    | succ e ih =>
      intro a m N τ hm ha n1 n2 hF t93 t84 hLM hv h0
      refine Tm_suc (fun k => by rw [x_putWhole]) ?_
      rw [t84]
      refine Tm_ite (fun _ => l9 m N τ (by omega) (by omega) n1 n2 hF t93) (fun za => ?_)
      have za : 1 ≤ a := by
        by_cases c : a = 0
        · exact absurd ((n_le0 (by omega)).mpr c) za
        · omega
      -- noughts at the top go
      have l7 : ∀ (b : Nat) (M : Nat → Int32) (υ : MS), b ≤ a → M 1 = nI v → M 2 = nI (m + 1) → PrF σ υ → υ.1 93 = nI p → υ.1 84 = nI b → LM (υ.2.2 42) b → vl (υ.2.2 42) b < 10 ^ e → Tm (fun k => x_putWhole k 7 M υ) (PrO σ p (p + 5 * (n - 1) + 2)) := by
        intro b
        induction b with
        | zero =>
          intro M υ hb m1 m2 hF2 u93 u84 hL2 hv2
          refine Tm_suc (fun k => by rw [x_putWhole]) ?_
          rw [u84]
          refine Tm_ite (fun _ => ?_) (fun q => absurd ((n_le0 (by decide)).mpr rfl) q)
          refine Tm_suc (fun k => by rw [x_putWhole]) ?_
          exact ih 0 (m + 1) M υ (by omega) (by decide) m1 m2 hF2 u93 u84 hL2 hv2 (Or.inl rfl)
        | succ b ihb =>
          intro M υ hb m1 m2 hF2 u93 u84 hL2 hv2
          refine Tm_suc (fun k => by rw [x_putWhole]) ?_
          rw [u84, show nI (b + 1) - 1 = nI b from n_sub (p := b + 1) (q := 1) (by omega) (by omega)]
          refine Tm_ite (fun q => absurd ((n_le0 (by omega)).mp q) (by omega)) (fun _ => ?_)
          refine Tm_chk (n_in (by omega) (by omega)) ?_
          rw [n_cl (p := b) (by omega)]
          refine Tm_ite (fun z => ?_) (fun z => ?_)
          · have v1 : vl (υ.2.2 42) (b + 1) = vl (υ.2.2 42) b + dg (υ.2.2 42) b * 65536 ^ b := rfl
            exact ihb M (mSc υ 84 (nI b)) (by omega) m1 m2 (PrF_tr hF2 (PrF_sc (Or.inl rfl))) u93 rfl (LM_mo hL2 (by omega)) (by show vl (υ.2.2 42) b < 10 ^ e; omega)
          · refine Tm_suc (fun k => by rw [x_putWhole]) ?_
            refine ih (b + 1) (m + 1) M υ (by omega) (by omega) m1 m2 hF2 u93 u84 hL2 hv2 (Or.inr ?_)
            have h1 := (vl_top hL2).mpr z
            have h2 := pow_pos16 b
            by_cases c : e = 0
            · rw [c] at hv2
              have hv2 : vl (υ.2.2 42) (b + 1) < 1 := hv2
              omega
            · omega
      -- by ten
      have l3 : ∀ (k c : Nat) (M : Nat → Int32) (υ : MS), k ≤ a → c ≤ 9 → M 1 = nI v → M 2 = nI m → M 3 = nI c → M 4 = nI k - 1 → PrF σ υ → υ.1 93 = nI p → υ.1 84 = nI a → LM (υ.2.2 42) a → vl (τ.2.2 42) a + 10 * vl (υ.2.2 42) k = vl (υ.2.2 42) k + 10 * vl (υ.2.2 42) a + c * 65536 ^ k → Tm (fun f => x_putWhole f 3 M υ) (PrO σ p (p + 5 * (n - 1) + 2)) := by
        intro k
        induction k with
        | zero =>
          intro c M υ hk hc m1 m2 m3 m4 hF2 u93 u84 hL2 he
          refine Tm_suc (fun k => by rw [x_putWhole]) ?_
          rw [m4]
          refine Tm_ite (fun _ => ?_) (fun z => absurd (show nI 0 - 1 < 0 by decide) z)
          refine Tm_suc (fun k => by rw [x_putWhole]) ?_
          rw [m2]
          refine Tm_chk (n_in (by omega) (by omega)) ?_
          rw [n_cl (p := m) (by omega)]
          show Tm (fun f => x_putWhole f 6 M (mAr υ 49 m (M 3))) _
          refine Tm_suc (fun k => by rw [x_putWhole]) ?_
          have q42 : (mAr υ 49 m (M 3)).2.2 42 = υ.2.2 42 := mAr_o (by decide)
          refine l7 a _ _ (Nat.le_refl _) m1 (by show M 2 + 1 = _; rw [m2, n_add1]) (PrF_tr hF2 (PrF_ar (Or.inr (Or.inr rfl)))) u93 u84 (by rw [q42]; exact hL2) ?_
          rw [q42]
          have h0 : vl (υ.2.2 42) 0 = 0 := rfl
          rw [h0] at he
          have hp10 : 10 ^ (e + 1) = 10 * 10 ^ e := by rw [Nat.pow_succ, Nat.mul_comm]
          have he : vl (τ.2.2 42) a + 10 * 0 = 0 + 10 * vl (υ.2.2 42) a + c * 1 := he
          omega
        | succ k ihk =>
          intro c M υ hk hc m1 m2 m3 m4 hF2 u93 u84 hL2 he
          rw [show nI (k + 1) - 1 = nI k from n_sub (p := k + 1) (q := 1) (by omega) (by omega)] at m4
          obtain ⟨x1, x2⟩ := LM_dg hL2 (i := k) (by omega)
          refine Tm_suc (fun k => by rw [x_putWhole]) ?_
          rw [m4, m3]
          refine Tm_ite (fun z => absurd ((n_lt (q := 0) (by omega) (by decide)).mp z) (by omega)) (fun _ => ?_)
          refine Tm_chk (n_in (by omega) (by omega)) ?_
          refine Tm_chk0 (by decide) ?_
          refine Tm_chk (n_in (by omega) (by omega)) ?_
          rw [n_cl (p := k) (by omega), x1, n_shl16 hc x2, (n_mod10 (x := c * 65536 + dg (υ.2.2 42) k) (by omega)).2]
          show Tm (fun f => x_putWhole f 4 (upd M 5 (nI (c * 65536 + dg (υ.2.2 42) k))) (mAr υ 42 k (nI ((c * 65536 + dg (υ.2.2 42) k) / 10)))) _
          refine Tm_suc (fun k => by rw [x_putWhole]) ?_
          refine Tm_chk0 (by decide) ?_
          have m5 : upd M 5 (nI (c * 65536 + dg (υ.2.2 42) k)) 5 = nI (c * 65536 + dg (υ.2.2 42) k) := upd_same
          rw [m5, (n_mod10 (x := c * 65536 + dg (υ.2.2 42) k) (by omega)).1]
          refine ihk ((c * 65536 + dg (υ.2.2 42) k) % 10) _ _ (by omega) (by omega) m1 m2 rfl (by show M 4 + (-1) = nI k - 1; rw [m4]; exact (Int32.sub_eq_add_neg _ _).symm) (PrF_tr hF2 (PrF_ar (Or.inl rfl))) u93 u84 (by rw [mAr_s]; exact LM_upd hL2 ⟨_, by omega, rfl⟩) ?_
          rw [mAr_s, vl_upd (Nat.le_refl _)]
          have hs := vl_set (f := υ.2.2 42) (i := k) (y := (c * 65536 + dg (υ.2.2 42) k) / 10) (by omega) a (by omega)
          have v1 : vl (υ.2.2 42) (k + 1) = vl (υ.2.2 42) k + dg (υ.2.2 42) k * 65536 ^ k := rfl
          rw [v1, Nat.pow_succ] at he
          generalize dg (υ.2.2 42) k = d at *
          generalize vl (upd (υ.2.2 42) k (nI ((c * 65536 + d) / 10))) a = V' at *
          have e2 : (c * 65536 + d) / 10 * 10 + (c * 65536 + d) % 10 = c * 65536 + d := by omega
          have e4 : ((c * 65536 + d) / 10 * 10 + (c * 65536 + d) % 10) * 65536 ^ k = (c * 65536 + d) * 65536 ^ k := by rw [e2]
          rw [Nat.add_mul, Nat.add_mul] at e4
          have e5 : c * 65536 * 65536 ^ k = c * (65536 ^ k * 65536) := by rw [Nat.mul_assoc, Nat.mul_comm 65536]
          have e6 : (c * 65536 + d) / 10 * 10 * 65536 ^ k = 10 * ((c * 65536 + d) / 10 * 65536 ^ k) := by rw [Nat.mul_comm _ 10, Nat.mul_assoc]
          rw [e5, e6] at e4
          omega
      rw [show nI a - 1 = nI a - 1 from rfl]
      refine l3 a 0 _ τ (Nat.le_refl _) (by decide) n1 n2 rfl rfl hF t93 t84 hLM ?_
      rw [Nat.zero_mul]; omega
  refine Tm_suc (fun k => by rw [x_putWhole]) ?_
  refine Tm_ob (s_loadA hS w1 w2 w3 w4 w5 (by exact h1)) (fun r hr => ?_)
  obtain ⟨_, p84, pA, q43, q85⟩ := hr
  have hF1 : PrF σ r.2 := ⟨fun j hj => q85 j (by omega), fun j hj => q43 j (by omega)⟩
  have r93 : r.2.1 93 = nI p := (q85 93 (by decide)).trans h93
  have hv : vl (r.2.2.2 42) (n - 1) < 10 ^ (5 * (n - 1)) := by
    refine Nat.lt_of_lt_of_le (vl_lt _ pA) ?_
    rw [Nat.pow_mul]
    exact Nat.pow_le_pow_left (by decide) _
  rw [p84]
  refine Tm_ite (fun z => ?_) (fun z => ?_)
  · have z := (n_eq0 (by omega)).mp z
    refine Tm_chk (by decide) ?_
    show Tm (fun k => x_putWhole k 1 (upd L 2 0) (mAr r.2 49 (0 : Int32).toNatClampNeg 0)) _
    refine Tm_suc (fun k => by rw [x_putWhole]) ?_
    refine Tm_suc (fun k => by rw [x_putWhole]) ?_
    refine Tm_ite (fun _ => ?_) (fun q => absurd ?_ q)
    · exact l9 1 _ _ (by omega) (by decide) h1 rfl (PrF_tr hF1 (PrF_ar (Or.inr (Or.inr rfl)))) r93
    · show r.2.1 84 ≤ 0
      rw [p84, z]; decide
  · have z : ¬ n - 1 = 0 := fun c => z (by rw [c]; rfl)
    exact l2 (5 * (n - 1)) (n - 1) 0 _ r.2 (by omega) (by omega) h1 rfl hF1 r93 p84 pA hv (Or.inr (by omega))
end PWH
