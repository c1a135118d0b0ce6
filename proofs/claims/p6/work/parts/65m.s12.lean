abbrev isPart (c : Int32) : Prop := c = 2 ∨ c = 3 ∨ c = 30
def nmE (R : Nat → Int32) (n : Nat) : Nat → Nat → Nat
  | 0, i => i
  | f + 1, i => if i < n ∧ isPart (cls (R i)) then nmE R n f (i + 1) else i
def dgE (R : Nat → Int32) (n : Nat) : Nat → Nat → Nat
  | 0, i => i
  | f + 1, i => if i < n ∧ ¬ R i < 48 ∧ ¬ 57 < R i then dgE R n f (i + 1) else i
def sgE (R : Nat → Int32) (n : Nat) : Nat → Nat → Nat
  | 0, i => i
  | f + 1, i => if i < n ∧ ¬ R i &&& 255 < 32 ∧ ¬ R i = 34 then sgE R n f (i + 1) else i
theorem nmE_step {R : Nat → Int32} {n f i : Nat} : nmE R n (f + 1) i = if i < n ∧ isPart (cls (R i)) then nmE R n f (i + 1) else i := rfl
theorem dgE_step {R : Nat → Int32} {n f i : Nat} : dgE R n (f + 1) i = if i < n ∧ ¬ R i < 48 ∧ ¬ 57 < R i then dgE R n f (i + 1) else i := rfl
theorem sgE_step {R : Nat → Int32} {n f i : Nat} : sgE R n (f + 1) i = if i < n ∧ ¬ R i &&& 255 < 32 ∧ ¬ R i = 34 then sgE R n f (i + 1) else i := rfl
theorem nmE_le (R : Nat → Int32) (n : Nat) : ∀ f i : Nat, i ≤ n → nmE R n f i ≤ n
  | 0, i, h => h
  | f + 1, i, h => by
    rw [nmE_step]
    split
    · next c => exact nmE_le R n f (i + 1) (by omega)
    · exact h
theorem nmE_ge (R : Nat → Int32) (n : Nat) : ∀ f i : Nat, i ≤ nmE R n f i
  | 0, i => Nat.le_refl _
  | f + 1, i => by
    rw [nmE_step]
    split
    · have := nmE_ge R n f (i + 1); omega
    · exact Nat.le_refl _
theorem dgE_le (R : Nat → Int32) (n : Nat) : ∀ f i : Nat, i ≤ n → dgE R n f i ≤ n
  | 0, i, h => h
  | f + 1, i, h => by
    rw [dgE_step]
    split
    · next c => exact dgE_le R n f (i + 1) (by omega)
    · exact h
theorem dgE_ge (R : Nat → Int32) (n : Nat) : ∀ f i : Nat, i ≤ dgE R n f i
  | 0, i => Nat.le_refl _
  | f + 1, i => by
    rw [dgE_step]
    split
    · have := dgE_ge R n f (i + 1); omega
    · exact Nat.le_refl _
theorem sgE_le (R : Nat → Int32) (n : Nat) : ∀ f i : Nat, i ≤ n → sgE R n f i ≤ n
  | 0, i, h => h
  | f + 1, i, h => by
    rw [sgE_step]
    split
    · next c => exact sgE_le R n f (i + 1) (by omega)
    · exact h
theorem sgE_ge (R : Nat → Int32) (n : Nat) : ∀ f i : Nat, i ≤ sgE R n f i
  | 0, i => Nat.le_refl _
  | f + 1, i => by
    rw [sgE_step]
    split
    · have := sgE_ge R n f (i + 1); omega
    · exact Nat.le_refl _
/-- the bytes of a name: the first eight, those behind them -/
def keyH (R : Nat → Int32) (a : Nat) : Nat → Int64
  | 0 => 0
  | m + 1 => if m < 8 then keyH R a m <<< ((8 : Int32).toInt64 &&& 63) ||| (R (a + m)).toInt64 else keyH R a m
def keyL (R : Nat → Int32) (a : Nat) : Nat → Int64
  | 0 => 0
  | m + 1 => if m < 8 then keyL R a m else keyL R a m <<< ((8 : Int32).toInt64 &&& 63) ||| (R (a + m)).toInt64
/-- which word it is -/
def wdK (W : Nat → Int64) (hi : Int64) : Nat → Nat → Int32 → Int32
  | 0, _, kd => kd
  | f + 1, w, kd => wdK W hi f (w + 1) (if W w = hi then 32 + nI w else kd)
theorem nbCmp_0 {x y : Int64} : nbCmp x y = 0 ↔ x = y := by
  unfold nbCmp
  by_cases h : y < x
  · rw [if_pos h]
    refine ⟨fun q => absurd q (by decide), fun q => ?_⟩
    subst q
    exact absurd h (Int64.lt_irrefl (a := x))
  · rw [if_neg h]
    by_cases e : x = y
    · rw [if_pos e]; exact ⟨fun _ => e, fun _ => rfl⟩
    · rw [if_neg e]; exact ⟨fun q => absurd q (by decide), fun q => absurd q e⟩
theorem lJ_same {L : LV} {i : Nat} {x : Int64} : (lJ L i x).2.1 i = x := (updW_same : updW L.2.1 i x i = x)
theorem lJ_1 {L : LV} {i : Nat} {x : Int64} : (lJ L i x).1 = L.1 := rfl
section ADV
variable {σ : CS} {n : Nat}
/-- the ends -/
abbrev badK (kd : Int32) : Prop := kd = 0 ∨ kd = 29 ∨ kd = 30
def cTok (σ : CS) (kd st en : Int32) (hi lo : Int64) : RS := if badK kd then ((1, 0), sA σ kd st en hi lo, (1, 6)) else ((0, 0), sA σ kd st en hi lo, (0, 0))
theorem adv_end {kd st en : Int32} {hi lo : Int64} (L : LV) : Tm (fun k => f_X2_advance k 42 L (sA σ kd st en hi lo)) (fun r => r = cTok σ kd st en hi lo) := by
  have bad : badK kd → Tm (fun k => f_X2_advance k 49 L (sA σ kd st en hi lo)) (fun r => r = cTok σ kd st en hi lo) := fun h => by
    refine Tm_suc (fun k => by rw [f_X2_advance]) ?_
    exact Tm_some (by unfold cTok; rw [if_pos h])
  refine Tm_suc (fun k => by rw [f_X2_advance]) ?_
  rw [sA_r2]
  refine Tm_ite (fun c => bad (Or.inl c)) (fun c1 => ?_)
  refine Tm_ite (fun c => bad (Or.inr (Or.inl c))) (fun c2 => ?_)
  refine Tm_ite (fun c => bad (Or.inr (Or.inr c))) (fun c3 => ?_)
  refine Tm_suc (fun k => by rw [f_X2_advance]) ?_
  exact Tm_some (by unfold cTok; rw [if_neg (fun h => h.elim c1 (fun h => h.elim c2 c3))])
theorem nm_loop (hn : cN σ n) {a : Nat} (Q : RS → Prop) : ∀ (f i : Nat) (L : LV) (en : Int32), n - i < f → a ≤ i → i ≤ n → (i = a → a < n ∧ isPart (cls (σ.2.2.1 38 a))) → (a < i → en = nI i) → L.1 1 = nI a → L.1 5 = cls (σ.2.2.1 38 i) → L.1 6 = nI i →
    (∀ (M : LV), M.1 1 = nI a → a < nmE (σ.2.2.1 38) n f i → Tm (fun k => f_X2_advance k 25 M (sA σ 2 (nI a) (nI (nmE (σ.2.2.1 38) n f i)) (keyH (σ.2.2.1 38) a (nmE (σ.2.2.1 38) n f i - a)) (keyL (σ.2.2.1 38) a (nmE (σ.2.2.1 38) n f i - a)))) Q) → Tm (fun k => f_X2_advance k 21 L (sA σ 2 (nI a) en (keyH (σ.2.2.1 38) a (i - a)) (keyL (σ.2.2.1 38) a (i - a)))) Q := by
  obtain ⟨h1, hN, hS, hS2, hfit, z0, z1⟩ := hn
  intro f
  induction f with
  | zero => intro i L en h; omega
  | succ f ih =>
    intro i L en hf hai hi hfirst hen l1 l5 l6 t
    rw [nmE_step] at t
    have stop : ¬ (i < n ∧ isPart (cls (σ.2.2.1 38 i))) → Tm (fun k => f_X2_advance k 25 L (sA σ 2 (nI a) en (keyH (σ.2.2.1 38) a (i - a)) (keyL (σ.2.2.1 38) a (i - a)))) Q := fun h => by
      rw [if_neg h] at t
      have hai2 : a < i := by
        by_cases e : i = a
        · subst e; exact absurd (hfirst rfl) h
        · omega
      rw [hen hai2]
      exact t L l1 hai2
    have go : (i < n ∧ isPart (cls (σ.2.2.1 38 i))) → Tm (fun k => f_X2_advance k 26 L (sA σ 2 (nI a) en (keyH (σ.2.2.1 38) a (i - a)) (keyL (σ.2.2.1 38) a (i - a)))) Q := fun h => by
      rw [if_pos h] at t
      have hin := h.1
      obtain ⟨m, rfl⟩ : ∃ m, i = a + m := ⟨i - a, by omega⟩
      rw [show a + m - a = m by omega]
      -- 45: both rows are known
      have last : ∀ M : LV, M.1 1 = nI a → M.1 6 = nI (a + m) → M.2.1 100 = keyL (σ.2.2.1 38) a (m + 1) → Tm (fun k => f_X2_advance k 45 M (sA σ 2 (nI a) en (keyH (σ.2.2.1 38) a (m + 1)) (keyL (σ.2.2.1 38) a m))) Q := by
        intro M m1 m6 m100
        -- 55: the next part
        have on : ∀ (K : LV), K.1 1 = nI a → K.1 6 = nI (a + m) → K.1 100 = cls (σ.2.2.1 38 (a + m + 1)) → Tm (fun k => f_X2_advance k 55 K (sA σ 2 (nI a) (nI (a + m + 1)) (keyH (σ.2.2.1 38) a (m + 1)) (keyL (σ.2.2.1 38) a (m + 1)))) Q := by
          intro K k1 k6 k100
          refine Tm_suc (fun k => by rw [f_X2_advance]) ?_
          rw [k6, k100, n_add1]
          have := ih (a + m + 1) (lI (lI K 5 (cls (σ.2.2.1 38 (a + m + 1)))) 6 (nI (a + m + 1))) (nI (a + m + 1)) (by omega) (by omega) (by omega) (fun e => by omega) (fun _ => rfl) (by rw [lI_other (by decide), lI_other (by decide)]; exact k1) (by rw [lI_other (by decide), lI_same]) (by rw [lI_same]) t
          rw [show a + m + 1 - a = m + 1 by omega] at this
          exact this
        refine Tm_suc (fun k => by rw [f_X2_advance]) ?_
        rw [m100, m6, n_add1, sA_w6, sA_w4, sA_r4]
        refine Tm_chk (n_in (by omega) (show a + m + 1 < sN σ 38 by omega)) ?_
        rw [n_cl (p := a + m + 1) (by omega)]
        have hb := hfit (a + m + 1) (by omega)
        show Tm (fun k => if 0 ≤ σ.2.2.1 38 (a + m + 1) then _ else _) Q
        refine Tm_ite (fun c => ?_) (fun c => ?_)
        · have hc : ¬ σ.2.2.1 38 (a + m + 1) < 0 := Int32.not_lt.mpr c
          refine Tm_suc (fun k => by rw [f_X2_advance]) ?_
          rw [sA_r4]
          refine Tm_chk (n_in (by omega) (show a + m + 1 < sN σ 38 by omega)) ?_
          rw [n_cl (p := a + m + 1) (by omega)]
          refine Tm_chk (byte_in hb hc) ?_
          exact on _ (by rw [lI_other (by decide)]; exact m1) (by rw [lI_other (by decide)]; exact m6) (by rw [lI_same]; unfold cls; rw [if_neg hc]; rfl)
        · have hc : σ.2.2.1 38 (a + m + 1) < 0 := Int32.not_le.mp c
          exact on _ (by rw [lI_other (by decide)]; exact m1) (by rw [lI_other (by decide)]; exact m6) (by rw [lI_same]; unfold cls; rw [if_pos hc])
      -- 35: the first row is known
      have mid : ∀ M : LV, M.1 1 = nI a → M.1 6 = nI (a + m) → M.2.1 100 = keyH (σ.2.2.1 38) a (m + 1) → Tm (fun k => f_X2_advance k 35 M (sA σ 2 (nI a) en (keyH (σ.2.2.1 38) a m) (keyL (σ.2.2.1 38) a m))) Q := by
        intro M m1 m6 m100
        refine Tm_suc (fun k => by rw [f_X2_advance]) ?_
        rw [m100, m6, m1, sA_w5, sA_r6, n_sub (by omega) (by omega), show a + m - a = m by omega, show (8 : Int32) = nI 8 from rfl]
        refine Tm_ite (fun c => ?_) (fun c => ?_)
        · rw [n_le (by omega) (by omega)] at c
          refine Tm_suc (fun k => by rw [f_X2_advance]) ?_
          rw [m6, sA_r6]
          refine Tm_chk (n_in (by omega) (show a + m < sN σ 38 by omega)) ?_
          rw [n_cl (p := a + m) (by omega)]
          refine last _ m1 m6 ?_
          rw [lJ_same]
          show _ = if m < 8 then _ else _
          rw [if_neg (by omega)]; rfl
        · rw [n_le (by omega) (by omega)] at c
          refine last _ m1 m6 ?_
          rw [lJ_same]
          show _ = if m < 8 then _ else _
          rw [if_pos (by omega)]
      refine Tm_suc (fun k => by rw [f_X2_advance]) ?_
      rw [l6, l1, n_sub (by omega) (by omega), show a + m - a = m by omega, show (8 : Int32) = nI 8 from rfl]
      refine Tm_ite (fun c => ?_) (fun c => ?_)
      · rw [n_le (by omega) (by omega)] at c
        refine Tm_suc (fun k => by rw [f_X2_advance]) ?_
        rw [sA_r5]
        refine mid _ l1 l6 ?_
        rw [lJ_same]
        show _ = if m < 8 then _ else _
        rw [if_neg (by omega)]
      · rw [n_le (by omega) (by omega)] at c
        refine Tm_chk (n_in (by omega) (show a + m < sN σ 38 by omega)) ?_
        rw [n_cl (p := a + m) (by omega), sA_r5]
        refine mid _ l1 l6 ?_
        rw [lJ_same]
        show _ = if m < 8 then _ else _
        rw [if_pos (by omega)]; rfl
    refine Tm_suc (fun k => by rw [f_X2_advance]) ?_
    rw [sA_r1, h1, l6, l5]
    refine Tm_ite (fun c => ?_) (fun c => ?_)
    · rw [n_le (by omega) (by omega)] at c
      exact stop (by omega)
    rw [n_le (by omega) (by omega)] at c
    refine Tm_ite (fun d => go ⟨by omega, Or.inl d⟩) (fun d1 => ?_)
    refine Tm_ite (fun d => go ⟨by omega, Or.inr (Or.inl d)⟩) (fun d2 => ?_)
    refine Tm_ite (fun d => go ⟨by omega, Or.inr (Or.inr d)⟩) (fun d3 => stop (fun h => h.2.elim d1 (fun h => h.elim d2 d3)))
/-- the words -/
theorem wd_loop {a e : Nat} (hae : a ≤ e) (he : e ≤ 32768) (h8 : e - a ≤ 8) {hi lo : Int64} : ∀ (m w : Nat) (kd : Int32) (L : LV), m + w = 53 → L.1 1 = nI a → L.1 6 = nI w → Tm (fun k => f_X2_advance k 43 L (sA σ kd (nI a) (nI e) hi lo)) (fun r => r = cTok σ (wdK (σ.2.2.2.1 39) hi m w kd) (nI a) (nI e) hi lo) := by
  intro m
  induction m with
  | zero =>
    intro w kd L hm l1 l6
    obtain rfl : w = 53 := by omega
    refine Tm_suc (fun k => by rw [f_X2_advance]) ?_
    rw [l6]
    refine Tm_ite (fun _ => ?_) (fun c => absurd (by decide) c)
    refine Tm_suc (fun k => by rw [f_X2_advance]) ?_
    exact adv_end _
  | succ m ih =>
    intro w kd L hm l1 l6
    refine Tm_suc (fun k => by rw [f_X2_advance]) ?_
    rw [l6, l1, sA_r4, n_sub (by omega) hae, show (Int32.ofNat 53) = nI 53 from rfl, show (8 : Int32) = nI 8 from rfl]
    refine Tm_ite (fun c => ?_) (fun _ => ?_)
    · rw [n_le (by omega) (by omega)] at c; omega
    refine Tm_ite (fun c => ?_) (fun _ => ?_)
    · rw [n_lt (by omega) (by omega)] at c; omega
    refine Tm_chk (n_in (by omega) (by omega)) ?_
    rw [n_cl (p := w) (by omega), sA_r5]
    have on : ∀ (x : Int32) (K : LV), K.1 1 = nI a → K.1 6 = nI w → K.1 100 = x → Tm (fun k => f_X2_advance k 53 K (sA σ kd (nI a) (nI e) hi lo)) (fun r => r = cTok σ (wdK (σ.2.2.2.1 39) hi m (w + 1) x) (nI a) (nI e) hi lo) := by
      intro x K k1 k6 k100
      refine Tm_suc (fun k => by rw [f_X2_advance]) ?_
      rw [k6, k100, n_add1, sA_w2]
      exact ih (w + 1) x _ (by omega) (by rw [lI_other (by decide)]; exact k1) (by rw [lI_same])
    show Tm _ (fun r => r = cTok σ (wdK (σ.2.2.2.1 39) hi m (w + 1) (if σ.2.2.2.1 39 w = hi then 32 + nI w else kd)) (nI a) (nI e) hi lo)
    refine Tm_ite (fun c => ?_) (fun c => ?_)
    · rw [if_pos (show σ.2.2.2.1 39 w = hi from nbCmp_0.mp c)]
      exact on _ _ (by rw [lI_other (by decide)]; exact l1) (by rw [lI_other (by decide)]; exact l6) (by rw [lI_same])
    · rw [if_neg (show ¬ σ.2.2.2.1 39 w = hi from fun h => c (nbCmp_0.mpr h))]
      refine Tm_suc (fun k => by rw [f_X2_advance]) ?_
      rw [sA_r2]
      exact on _ _ (by rw [lI_other (by decide)]; exact l1) (by rw [lI_other (by decide)]; exact l6) (by rw [lI_same])
end ADV
