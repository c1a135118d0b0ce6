section JnS11
/-! The house reads tokens. -/
theorem upd_comm {f : Nat → Int32} {j k : Nat} {x y : Int32} (h : j ≠ k) : upd (upd f j x) k y = upd (upd f k y) j x := by
  funext i
  unfold upd
  by_cases a : i = j
  · subst a; rw [if_pos rfl, if_neg h, if_pos rfl]
  · rw [if_neg a, if_neg a]
theorem updW_same {f : Nat → Int64} {k : Nat} {x : Int64} : updW f k x k = x := if_pos rfl
theorem updW_other {f : Nat → Int64} {k j : Nat} {x : Int64} (h : j ≠ k) : updW f k x j = f j := if_neg h
theorem updW_updW {f : Nat → Int64} {k : Nat} {x y : Int64} : updW (updW f k x) k y = updW f k y := by
  funext j
  unfold updW
  by_cases h : j = k
  · rw [if_pos h, if_pos h]
  · rw [if_neg h, if_neg h, if_neg h]
theorem updW_comm {f : Nat → Int64} {j k : Nat} {x y : Int64} (h : j ≠ k) : updW (updW f j x) k y = updW (updW f k y) j x := by
  funext i
  unfold updW
  by_cases a : i = j
  · subst a; rw [if_pos rfl, if_neg h, if_pos rfl]
  · rw [if_neg a, if_neg a]
theorem updW_self {f : Nat → Int64} {k : Nat} : updW f k (f k) = f := by
  funext j
  unfold updW
  by_cases h : j = k
  · rw [if_pos h, h]
  · rw [if_neg h]
/-- the state with another token: kind, start, end, the name's bytes -/
def sA (σ : CS) (kd st en : Int32) (hi lo : Int64) : CS := (upd (upd (upd σ.1 3702 kd) 3703 st) 3704 en, updW (updW σ.2.1 3705 hi) 3706 lo, σ.2.2)
section SA
variable {σ : CS} {kd st en : Int32} {hi lo : Int64}
theorem sA_self : sA σ (σ.1 3702) (σ.1 3703) (σ.1 3704) (σ.2.1 3705) (σ.2.1 3706) = σ := by
  unfold sA
  rw [upd_self, upd_self, upd_self, updW_self, updW_self]
theorem sA_r1 : (sA σ kd st en hi lo).1 3701 = σ.1 3701 := by
  show upd (upd (upd σ.1 3702 kd) 3703 st) 3704 en 3701 = _
  rw [upd_other (by decide), upd_other (by decide), upd_other (by decide)]
theorem sA_r2 : (sA σ kd st en hi lo).1 3702 = kd := by
  show upd (upd (upd σ.1 3702 kd) 3703 st) 3704 en 3702 = _
  rw [upd_other (by decide), upd_other (by decide), upd_same]
theorem sA_r3 : (sA σ kd st en hi lo).1 3703 = st := by
  show upd (upd (upd σ.1 3702 kd) 3703 st) 3704 en 3703 = _
  rw [upd_other (by decide), upd_same]
theorem sA_r4 : (sA σ kd st en hi lo).1 3704 = en := by
  show upd (upd (upd σ.1 3702 kd) 3703 st) 3704 en 3704 = _
  rw [upd_same]
theorem sA_r5 : (sA σ kd st en hi lo).2.1 3705 = hi := by
  show updW (updW σ.2.1 3705 hi) 3706 lo 3705 = _
  rw [updW_other (by decide), updW_same]
theorem sA_r6 : (sA σ kd st en hi lo).2.1 3706 = lo := by
  show updW (updW σ.2.1 3705 hi) 3706 lo 3706 = _
  rw [updW_same]
theorem sA_w2 {v : Int32} : uI (sA σ kd st en hi lo) 3702 v = sA σ v st en hi lo := by
  show (upd (upd (upd (upd σ.1 3702 kd) 3703 st) 3704 en) 3702 v, updW (updW σ.2.1 3705 hi) 3706 lo, σ.2.2) = (upd (upd (upd σ.1 3702 v) 3703 st) 3704 en, updW (updW σ.2.1 3705 hi) 3706 lo, σ.2.2)
  rw [upd_comm (by decide : (3704 : Nat) ≠ 3702), upd_comm (by decide : (3703 : Nat) ≠ 3702), upd_upd]
theorem sA_w3 {v : Int32} : uI (sA σ kd st en hi lo) 3703 v = sA σ kd v en hi lo := by
  show (upd (upd (upd (upd σ.1 3702 kd) 3703 st) 3704 en) 3703 v, updW (updW σ.2.1 3705 hi) 3706 lo, σ.2.2) = (upd (upd (upd σ.1 3702 kd) 3703 v) 3704 en, updW (updW σ.2.1 3705 hi) 3706 lo, σ.2.2)
  rw [upd_comm (by decide : (3704 : Nat) ≠ 3703), upd_upd]
theorem sA_w4 {v : Int32} : uI (sA σ kd st en hi lo) 3704 v = sA σ kd st v hi lo := by
  show (upd (upd (upd (upd σ.1 3702 kd) 3703 st) 3704 en) 3704 v, updW (updW σ.2.1 3705 hi) 3706 lo, σ.2.2) = (upd (upd (upd σ.1 3702 kd) 3703 st) 3704 v, updW (updW σ.2.1 3705 hi) 3706 lo, σ.2.2)
  rw [upd_upd]
theorem sA_w5 {v : Int64} : uL (sA σ kd st en hi lo) 3705 v = sA σ kd st en v lo := by
  show (upd (upd (upd σ.1 3702 kd) 3703 st) 3704 en, updW (updW (updW σ.2.1 3705 hi) 3706 lo) 3705 v, σ.2.2) = (upd (upd (upd σ.1 3702 kd) 3703 st) 3704 en, updW (updW σ.2.1 3705 v) 3706 lo, σ.2.2)
  rw [updW_comm (by decide : (3706 : Nat) ≠ 3705), updW_updW]
theorem sA_w6 {v : Int64} : uL (sA σ kd st en hi lo) 3706 v = sA σ kd st en hi v := by
  show (upd (upd (upd σ.1 3702 kd) 3703 st) 3704 en, updW (updW (updW σ.2.1 3705 hi) 3706 lo) 3706 v, σ.2.2) = (upd (upd (upd σ.1 3702 kd) 3703 st) 3704 en, updW (updW σ.2.1 3705 hi) 3706 v, σ.2.2)
  rw [updW_updW]
end SA
/-- the house's tape has n bytes, two zeros behind it -/
def cN (σ : CS) (n : Nat) : Prop := σ.1 3701 = nI n ∧ n ≤ 32768 ∧ n + 2 ≤ sN σ 38 ∧ sN σ 38 ≤ 32770 ∧ tFit (σ.2.2.1 38) (sN σ 38) ∧ σ.2.2.1 38 n = 0 ∧ σ.2.2.1 38 (n + 1) = 0
theorem cN_sA {σ : CS} {n : Nat} {kd st en : Int32} {hi lo : Int64} (h : cN σ n) : cN (sA σ kd st en hi lo) n := ⟨by rw [sA_r1]; exact h.1, h.2⟩
/-- the kind that a byte begins with -/
def cls (c : Int32) : Int32 := if c < 0 then 0 else lxC.getD c.toNatClampNeg 0
theorem byte_in {c : Int32} (h : fits .byte (.int c) = true) (h0 : ¬ c < 0) : ¬ (c < 0 ∨ 128 ≤ c.toNatClampNeg) := by
  have := fits_byte' h
  rw [i_lt, i_c0] at h0
  exact i_in (by omega) (by omega)
abbrev cNote (R : Nat → Int32) (i : Nat) (note : Bool) : Bool := if note then decide (¬ R i = 10) else decide (R i = 45 ∧ R (i + 1) = 45)
def cSk (R : Nat → Int32) (n : Nat) : Nat → Bool → Nat → Nat
  | 0, _, i => i
  | f + 1, note, i => if i < n then (if cNote R i note = true ∨ cls (R i) = 31 then cSk R n f (cNote R i note) (i + 1) else i) else i
theorem cSk_step {R : Nat → Int32} {n f i : Nat} {note : Bool} : cSk R n (f + 1) note i = if i < n then (if cNote R i note = true ∨ cls (R i) = 31 then cSk R n f (cNote R i note) (i + 1) else i) else i := rfl
theorem cSk_le (R : Nat → Int32) (n : Nat) : ∀ (f : Nat) (note : Bool) (i : Nat), i ≤ n → cSk R n f note i ≤ n
  | 0, _, i, h => h
  | f + 1, note, i, h => by
    rw [cSk_step]
    by_cases c : i < n
    · rw [if_pos c]
      by_cases d : cNote R i note = true ∨ cls (R i) = 31
      · rw [if_pos d]; exact cSk_le R n f _ (i + 1) (by omega)
      · rw [if_neg d]; exact h
    · rw [if_neg c]; exact h
def b2i (b : Bool) : Int32 := if b then 1 else 0
theorem between_loop {σ : CS} {n : Nat} (hn : cN σ n) (Q : RS → Prop) : ∀ (f : Nat) (note : Bool) (i : Nat) (L : LV), n - i < f → i ≤ n → L.1 1 = nI i → L.1 2 = b2i note → L.1 3 = 1 → L.1 4 = nI i → (∀ M : LV, M.1 1 = nI (cSk (σ.2.2.1 38) n f note i) → Tm (fun k => f_X2_advance k 2 M σ) Q) → Tm (fun k => f_X2_advance k 1 L σ) Q := by
  obtain ⟨h1, hN, hS, hS2, hfit, z0, z1⟩ := hn
  intro f
  induction f with
  | zero => intro note i L h; omega
  | succ f ih =>
    intro note i L hf hi l1 l2 l3 l4 t
    rw [cSk_step] at t
    refine Tm_suc (fun k => by rw [f_X2_advance]) ?_
    rw [h1, l4]
    refine Tm_ite (fun c => ?_) (fun c => ?_)
    · rw [n_le (by omega) (by omega)] at c
      rw [if_neg (by omega)] at t
      exact t L l1
    rw [n_le (by omega) (by omega)] at c
    rw [if_pos (by omega)] at t
    refine Tm_ite (fun d => absurd d (by rw [l3]; decide)) (fun _ => ?_)
    refine Tm_chk (n_in (by omega) (by omega)) ?_
    rw [n_cl (p := i) (by omega)]
    have hb := hfit i (by omega)
    -- behind the test: x says whether it lies between
    have join : ∀ (x : Bool) (note' : Bool) (M : LV), M.1 1 = nI i → M.1 2 = b2i note' → M.1 4 = nI i → M.1 100 = b2i x → (x = true ↔ (cNote (σ.2.2.1 38) i note = true ∨ cls (σ.2.2.1 38 i) = 31)) → note' = cNote (σ.2.2.1 38) i note → Tm (fun k => f_X2_advance k 13 M σ) Q := by
      intro x note' M m1 m2 m4 m100 hx hnote
      refine Tm_suc (fun k => by rw [f_X2_advance]) ?_
      rw [m100, m4]
      cases x with
      | false =>
        refine Tm_ite (fun _ => ?_) (fun c => absurd rfl c)
        have hno : ¬ (cNote (σ.2.2.1 38) i note = true ∨ cls (σ.2.2.1 38 i) = 31) := fun h => by have := hx.mpr h; cases this
        rw [if_neg hno] at t
        refine Tm_suc (fun k => by rw [f_X2_advance]) ?_
        rw [lI_other (by decide), m4]
        refine Tm_suc (fun k => by rw [f_X2_advance]) ?_
        refine Tm_suc (fun k => by rw [f_X2_advance]) ?_
        rw [h1, lI_same, lI_same, lI_other (by decide), lI_other (by decide), m4, n_add1]
        refine Tm_ite (fun c => ?_) (fun c => ?_)
        · exact t _ (by rw [lI_other (by decide), lI_same])
        · refine Tm_ite (fun _ => ?_) (fun c => ?_)
          · exact t _ (by rw [lI_other (by decide), lI_same])
          · exact absurd (by rw [lI_other (by decide), lI_other (by decide), lI_other (by decide), lI_same]; rfl) c
      | true =>
        refine Tm_ite (fun c => absurd c (by decide)) (fun _ => ?_)
        have hyes := hx.mp rfl
        rw [if_pos hyes] at t
        rw [n_add1]
        refine Tm_suc (fun k => by rw [f_X2_advance]) ?_
        rw [lI_same, lI_other (by decide), lI_other (by decide), m4, n_add1]
        refine ih note' (i + 1) _ (by omega) (by omega) ?_ ?_ ?_ ?_ (by rw [hnote]; exact t)
        · rw [lI_other (by decide), lI_same]
        · rw [lI_other (by decide), lI_other (by decide), lI_other (by decide), lI_other (by decide)]; exact m2
        · rw [lI_other (by decide), lI_other (by decide), lI_other (by decide), lI_same]; rfl
        · rw [lI_same]
    -- 5: the note is known
    have five : ∀ (M : LV), M.1 1 = nI i → M.1 4 = nI i → M.1 5 = σ.2.2.1 38 i → M.1 100 = b2i (cNote (σ.2.2.1 38) i note) → Tm (fun k => f_X2_advance k 5 M σ) Q := by
      intro M m1 m4 m5 m100
      have nine : (cNote (σ.2.2.1 38) i note = true ∨ cls (σ.2.2.1 38 i) = 31) → Tm (fun k => f_X2_advance k 9 (lI M 2 (M.1 100)) σ) Q := fun h => by
        refine Tm_suc (fun k => by rw [f_X2_advance]) ?_
        exact join true _ _ (by rw [lI_other (by decide), lI_other (by decide)]; exact m1) (by rw [lI_other (by decide), lI_same]; exact m100) (by rw [lI_other (by decide), lI_other (by decide)]; exact m4) (by rw [lI_same]; rfl) ⟨fun _ => h, fun _ => rfl⟩ rfl
      have ten : ¬ (cNote (σ.2.2.1 38) i note = true ∨ cls (σ.2.2.1 38 i) = 31) → Tm (fun k => f_X2_advance k 10 (lI M 2 (M.1 100)) σ) Q := fun h => by
        refine Tm_suc (fun k => by rw [f_X2_advance]) ?_
        exact join false _ _ (by rw [lI_other (by decide), lI_other (by decide)]; exact m1) (by rw [lI_other (by decide), lI_same]; exact m100) (by rw [lI_other (by decide), lI_other (by decide)]; exact m4) (by rw [lI_same]; rfl) ⟨fun q => (by cases q), fun q => absurd q h⟩ rfl
      refine Tm_suc (fun k => by rw [f_X2_advance]) ?_
      rw [m5]
      refine Tm_ite (fun c0 => ?_) (fun c0 => ?_)
      · have hf0 : cNote (σ.2.2.1 38) i note = false := by
          rw [m100] at c0
          generalize cNote (σ.2.2.1 38) i note = y at c0
          cases y with
          | false => rfl
          | true => exact absurd c0 (by decide)
        refine Tm_ite (fun cn => ?_) (fun cn => ?_)
        · refine ten (fun h => h.elim (fun q => by rw [hf0] at q; cases q) (fun q => ?_))
          unfold cls at q
          rw [if_pos cn] at q
          exact absurd q (by decide)
        · refine Tm_chk (byte_in hb cn) ?_
          have ec : cls (σ.2.2.1 38 i) = lxC.getD (σ.2.2.1 38 i).toNatClampNeg 0 := if_neg cn
          refine Tm_ite (fun c31 => nine (Or.inr (ec.trans c31))) (fun c31 => ten (fun h => h.elim (fun q => by rw [hf0] at q; cases q) (fun q => c31 (ec.symm.trans q))))
      · refine nine (Or.inl ?_)
        rw [m100] at c0
        generalize cNote (σ.2.2.1 38) i note = y at c0
        cases y with
        | false => exact absurd rfl c0
        | true => rfl
    cases note with
    | false =>
      refine Tm_ite (fun _ => ?_) (fun c => absurd l2 c)
      have eight : ¬ (σ.2.2.1 38 i = 45 ∧ σ.2.2.1 38 (i + 1) = 45) → Tm (fun k => f_X2_advance k 8 (lI L 5 (σ.2.2.1 38 i)) σ) Q := fun h => by
        refine Tm_suc (fun k => by rw [f_X2_advance]) ?_
        refine five _ (by rw [lI_other (by decide), lI_other (by decide)]; exact l1) (by rw [lI_other (by decide), lI_other (by decide)]; exact l4) (by rw [lI_other (by decide), lI_same]) ?_
        rw [lI_same]
        show (0 : Int32) = b2i (decide (σ.2.2.1 38 i = 45 ∧ σ.2.2.1 38 (i + 1) = 45))
        rw [decide_eq_false h]; rfl
      refine Tm_suc (fun k => by rw [f_X2_advance]) ?_
      rw [lI_same, lI_other (by decide), l4, n_add1]
      refine Tm_ite (fun c45 => ?_) (fun c45 => eight (fun h => c45 h.1))
      refine Tm_chk (n_in (by omega) (by omega)) ?_
      rw [n_cl (p := i + 1) (by omega)]
      refine Tm_ite (fun d45 => ?_) (fun d45 => eight (fun h => d45 h.2))
      refine five _ (by rw [lI_other (by decide), lI_other (by decide)]; exact l1) (by rw [lI_other (by decide), lI_other (by decide)]; exact l4) (by rw [lI_other (by decide), lI_same]) ?_
      rw [lI_same]
      show (1 : Int32) = b2i (decide (σ.2.2.1 38 i = 45 ∧ σ.2.2.1 38 (i + 1) = 45))
      rw [decide_eq_true ⟨c45, d45⟩]; rfl
    | true =>
      refine Tm_ite (fun c => absurd (l2.symm.trans c) (by decide)) (fun _ => ?_)
      refine Tm_ite (fun c10 => ?_) (fun c10 => ?_)
      · refine Tm_suc (fun k => by rw [f_X2_advance]) ?_
        refine five _ (by rw [lI_other (by decide), lI_other (by decide)]; exact l1) (by rw [lI_other (by decide), lI_other (by decide)]; exact l4) (by rw [lI_other (by decide), lI_same]) ?_
        rw [lI_same]
        show (0 : Int32) = b2i (decide (¬ σ.2.2.1 38 i = 10))
        rw [decide_eq_false (fun h => h c10)]; rfl
      · refine five _ (by rw [lI_other (by decide), lI_other (by decide)]; exact l1) (by rw [lI_other (by decide), lI_other (by decide)]; exact l4) (by rw [lI_other (by decide), lI_same]) ?_
        rw [lI_same]
        show (1 : Int32) = b2i (decide (¬ σ.2.2.1 38 i = 10))
        rw [decide_eq_true c10]; rfl
end JnS11
section JnS12
abbrev isPart (c : Int32) : Prop := c = 2 ∨ c = 3 ∨ c = 30
def nmE (R : Nat → Int32) (n : Nat) : Nat → Nat → Nat
  | 0, i => i
  | f + 1, i => if i < n ∧ isPart (cls (R i)) then nmE R n f (i + 1) else i
def dgE (R : Nat → Int32) (n : Nat) : Nat → Nat → Nat
  | 0, i => i
  | f + 1, i => if i < n ∧ ¬ R i < 48 ∧ ¬ 57 < R i then dgE R n f (i + 1) else i
def sgE (R : Nat → Int32) (n : Nat) : Nat → Nat → Nat
  | 0, i => i
  | f + 1, i => if i < n ∧ ¬ R i &&& 255 < 32 ∧ ¬ R i = 34 then sgE R n f (i + 1) else i
theorem nmE_step {R : Nat → Int32} {n f i : Nat} : nmE R n (f + 1) i = if i < n ∧ isPart (cls (R i)) then nmE R n f (i + 1) else i := rfl
theorem dgE_step {R : Nat → Int32} {n f i : Nat} : dgE R n (f + 1) i = if i < n ∧ ¬ R i < 48 ∧ ¬ 57 < R i then dgE R n f (i + 1) else i := rfl
theorem sgE_step {R : Nat → Int32} {n f i : Nat} : sgE R n (f + 1) i = if i < n ∧ ¬ R i &&& 255 < 32 ∧ ¬ R i = 34 then sgE R n f (i + 1) else i := rfl
theorem nmE_le (R : Nat → Int32) (n : Nat) : ∀ f i : Nat, i ≤ n → nmE R n f i ≤ n
  | 0, i, h => h
  | f + 1, i, h => by
    rw [nmE_step]
    split
    · next c => exact nmE_le R n f (i + 1) (by omega)
    · exact h
theorem nmE_ge (R : Nat → Int32) (n : Nat) : ∀ f i : Nat, i ≤ nmE R n f i
  | 0, i => Nat.le_refl _
  | f + 1, i => by
    rw [nmE_step]
    split
    · have := nmE_ge R n f (i + 1); omega
    · exact Nat.le_refl _
theorem dgE_le (R : Nat → Int32) (n : Nat) : ∀ f i : Nat, i ≤ n → dgE R n f i ≤ n
  | 0, i, h => h
  | f + 1, i, h => by
    rw [dgE_step]
    split
    · next c => exact dgE_le R n f (i + 1) (by omega)
    · exact h
theorem dgE_ge (R : Nat → Int32) (n : Nat) : ∀ f i : Nat, i ≤ dgE R n f i
  | 0, i => Nat.le_refl _
  | f + 1, i => by
    rw [dgE_step]
    split
    · have := dgE_ge R n f (i + 1); omega
    · exact Nat.le_refl _
theorem sgE_le (R : Nat → Int32) (n : Nat) : ∀ f i : Nat, i ≤ n → sgE R n f i ≤ n
  | 0, i, h => h
  | f + 1, i, h => by
    rw [sgE_step]
    split
    · next c => exact sgE_le R n f (i + 1) (by omega)
    · exact h
theorem sgE_ge (R : Nat → Int32) (n : Nat) : ∀ f i : Nat, i ≤ sgE R n f i
  | 0, i => Nat.le_refl _
  | f + 1, i => by
    rw [sgE_step]
    split
    · have := sgE_ge R n f (i + 1); omega
    · exact Nat.le_refl _
/-- the bytes of a name: the first eight, those behind them -/
def keyH (R : Nat → Int32) (a : Nat) : Nat → Int64
  | 0 => 0
  | m + 1 => if m < 8 then keyH R a m <<< ((8 : Int32).toInt64 &&& 63) ||| (R (a + m)).toInt64 else keyH R a m
def keyL (R : Nat → Int32) (a : Nat) : Nat → Int64
  | 0 => 0
  | m + 1 => if m < 8 then keyL R a m else keyL R a m <<< ((8 : Int32).toInt64 &&& 63) ||| (R (a + m)).toInt64
/-- which word it is -/
def wdK (W : Nat → Int64) (hi : Int64) : Nat → Nat → Int32 → Int32
  | 0, _, kd => kd
  | f + 1, w, kd => wdK W hi f (w + 1) (if W w = hi then 32 + nI w else kd)
theorem nbCmp_0 {x y : Int64} : nbCmp x y = 0 ↔ x = y := by
  unfold nbCmp
  by_cases h : y < x
  · rw [if_pos h]
    refine ⟨fun q => absurd q (by decide), fun q => ?_⟩
    subst q
    exact absurd h (Int64.lt_irrefl (a := x))
  · rw [if_neg h]
    by_cases e : x = y
    · rw [if_pos e]; exact ⟨fun _ => e, fun _ => rfl⟩
    · rw [if_neg e]; exact ⟨fun q => absurd q (by decide), fun q => absurd q e⟩
theorem lJ_same {L : LV} {i : Nat} {x : Int64} : (lJ L i x).2.1 i = x := (updW_same : updW L.2.1 i x i = x)
theorem lJ_1 {L : LV} {i : Nat} {x : Int64} : (lJ L i x).1 = L.1 := rfl
section ADV
variable {σ : CS} {n : Nat}
/-- the ends -/
abbrev badK (kd : Int32) : Prop := kd = 0 ∨ kd = 29 ∨ kd = 30
def cTok (σ : CS) (kd st en : Int32) (hi lo : Int64) : RS := if badK kd then ((1, 0), sA σ kd st en hi lo, (1, 6)) else ((0, 0), sA σ kd st en hi lo, (0, 0))
theorem adv_end {kd st en : Int32} {hi lo : Int64} (L : LV) : Tm (fun k => f_X2_advance k 42 L (sA σ kd st en hi lo)) (fun r => r = cTok σ kd st en hi lo) := by
  have bad : badK kd → Tm (fun k => f_X2_advance k 49 L (sA σ kd st en hi lo)) (fun r => r = cTok σ kd st en hi lo) := fun h => by
    refine Tm_suc (fun k => by rw [f_X2_advance]) ?_
    exact Tm_some (by unfold cTok; rw [if_pos h])
  refine Tm_suc (fun k => by rw [f_X2_advance]) ?_
  rw [sA_r2]
  refine Tm_ite (fun c => bad (Or.inl c)) (fun c1 => ?_)
  refine Tm_ite (fun c => bad (Or.inr (Or.inl c))) (fun c2 => ?_)
  refine Tm_ite (fun c => bad (Or.inr (Or.inr c))) (fun c3 => ?_)
  refine Tm_suc (fun k => by rw [f_X2_advance]) ?_
  exact Tm_some (by unfold cTok; rw [if_neg (fun h => h.elim c1 (fun h => h.elim c2 c3))])
theorem nm_loop (hn : cN σ n) {a : Nat} (Q : RS → Prop) : ∀ (f i : Nat) (L : LV) (en : Int32), n - i < f → a ≤ i → i ≤ n → (i = a → a < n ∧ isPart (cls (σ.2.2.1 38 a))) → (a < i → en = nI i) → L.1 1 = nI a → L.1 5 = cls (σ.2.2.1 38 i) → L.1 6 = nI i →
    (∀ (M : LV), M.1 1 = nI a → a < nmE (σ.2.2.1 38) n f i → Tm (fun k => f_X2_advance k 25 M (sA σ 2 (nI a) (nI (nmE (σ.2.2.1 38) n f i)) (keyH (σ.2.2.1 38) a (nmE (σ.2.2.1 38) n f i - a)) (keyL (σ.2.2.1 38) a (nmE (σ.2.2.1 38) n f i - a)))) Q) → Tm (fun k => f_X2_advance k 21 L (sA σ 2 (nI a) en (keyH (σ.2.2.1 38) a (i - a)) (keyL (σ.2.2.1 38) a (i - a)))) Q := by
  obtain ⟨h1, hN, hS, hS2, hfit, z0, z1⟩ := hn
  intro f
  induction f with
  | zero => intro i L en h; omega
  | succ f ih =>
    intro i L en hf hai hi hfirst hen l1 l5 l6 t
    rw [nmE_step] at t
    have stop : ¬ (i < n ∧ isPart (cls (σ.2.2.1 38 i))) → Tm (fun k => f_X2_advance k 25 L (sA σ 2 (nI a) en (keyH (σ.2.2.1 38) a (i - a)) (keyL (σ.2.2.1 38) a (i - a)))) Q := fun h => by
      rw [if_neg h] at t
      have hai2 : a < i := by
        by_cases e : i = a
        · subst e; exact absurd (hfirst rfl) h
        · omega
      rw [hen hai2]
      exact t L l1 hai2
    have go : (i < n ∧ isPart (cls (σ.2.2.1 38 i))) → Tm (fun k => f_X2_advance k 26 L (sA σ 2 (nI a) en (keyH (σ.2.2.1 38) a (i - a)) (keyL (σ.2.2.1 38) a (i - a)))) Q := fun h => by
      rw [if_pos h] at t
      have hin := h.1
      obtain ⟨m, rfl⟩ : ∃ m, i = a + m := ⟨i - a, by omega⟩
      rw [show a + m - a = m by omega]
      -- 45: both rows are known
      have last : ∀ M : LV, M.1 1 = nI a → M.1 6 = nI (a + m) → M.2.1 100 = keyL (σ.2.2.1 38) a (m + 1) → Tm (fun k => f_X2_advance k 45 M (sA σ 2 (nI a) en (keyH (σ.2.2.1 38) a (m + 1)) (keyL (σ.2.2.1 38) a m))) Q := by
        intro M m1 m6 m100
        -- 55: the next part
        have on : ∀ (K : LV), K.1 1 = nI a → K.1 6 = nI (a + m) → K.1 100 = cls (σ.2.2.1 38 (a + m + 1)) → Tm (fun k => f_X2_advance k 55 K (sA σ 2 (nI a) (nI (a + m + 1)) (keyH (σ.2.2.1 38) a (m + 1)) (keyL (σ.2.2.1 38) a (m + 1)))) Q := by
          intro K k1 k6 k100
          refine Tm_suc (fun k => by rw [f_X2_advance]) ?_
          rw [k6, k100, n_add1]
          have := ih (a + m + 1) (lI (lI K 5 (cls (σ.2.2.1 38 (a + m + 1)))) 6 (nI (a + m + 1))) (nI (a + m + 1)) (by omega) (by omega) (by omega) (fun e => by omega) (fun _ => rfl) (by rw [lI_other (by decide), lI_other (by decide)]; exact k1) (by rw [lI_other (by decide), lI_same]) (by rw [lI_same]) t
          rw [show a + m + 1 - a = m + 1 by omega] at this
          exact this
        refine Tm_suc (fun k => by rw [f_X2_advance]) ?_
        rw [m100, m6, n_add1, sA_w6, sA_w4, sA_r4]
        refine Tm_chk (n_in (by omega) (show a + m + 1 < sN σ 38 by omega)) ?_
        rw [n_cl (p := a + m + 1) (by omega)]
        have hb := hfit (a + m + 1) (by omega)
        show Tm (fun k => if 0 ≤ σ.2.2.1 38 (a + m + 1) then _ else _) Q
        refine Tm_ite (fun c => ?_) (fun c => ?_)
        · have hc : ¬ σ.2.2.1 38 (a + m + 1) < 0 := Int32.not_lt.mpr c
          refine Tm_suc (fun k => by rw [f_X2_advance]) ?_
          rw [sA_r4]
          refine Tm_chk (n_in (by omega) (show a + m + 1 < sN σ 38 by omega)) ?_
          rw [n_cl (p := a + m + 1) (by omega)]
          refine Tm_chk (byte_in hb hc) ?_
          exact on _ (by rw [lI_other (by decide)]; exact m1) (by rw [lI_other (by decide)]; exact m6) (by rw [lI_same]; unfold cls; rw [if_neg hc]; rfl)
        · have hc : σ.2.2.1 38 (a + m + 1) < 0 := Int32.not_le.mp c
          exact on _ (by rw [lI_other (by decide)]; exact m1) (by rw [lI_other (by decide)]; exact m6) (by rw [lI_same]; unfold cls; rw [if_pos hc])
      -- 35: the first row is known
      have mid : ∀ M : LV, M.1 1 = nI a → M.1 6 = nI (a + m) → M.2.1 100 = keyH (σ.2.2.1 38) a (m + 1) → Tm (fun k => f_X2_advance k 35 M (sA σ 2 (nI a) en (keyH (σ.2.2.1 38) a m) (keyL (σ.2.2.1 38) a m))) Q := by
        intro M m1 m6 m100
        refine Tm_suc (fun k => by rw [f_X2_advance]) ?_
        rw [m100, m6, m1, sA_w5, sA_r6, n_sub (by omega) (by omega), show a + m - a = m by omega, show (8 : Int32) = nI 8 from rfl]
        refine Tm_ite (fun c => ?_) (fun c => ?_)
        · rw [n_le (by omega) (by omega)] at c
          refine Tm_suc (fun k => by rw [f_X2_advance]) ?_
          rw [m6, sA_r6]
          refine Tm_chk (n_in (by omega) (show a + m < sN σ 38 by omega)) ?_
          rw [n_cl (p := a + m) (by omega)]
          refine last _ m1 m6 ?_
          rw [lJ_same]
          show _ = if m < 8 then _ else _
          rw [if_neg (by omega)]; rfl
        · rw [n_le (by omega) (by omega)] at c
          refine last _ m1 m6 ?_
          rw [lJ_same]
          show _ = if m < 8 then _ else _
          rw [if_pos (by omega)]
      refine Tm_suc (fun k => by rw [f_X2_advance]) ?_
      rw [l6, l1, n_sub (by omega) (by omega), show a + m - a = m by omega, show (8 : Int32) = nI 8 from rfl]
      refine Tm_ite (fun c => ?_) (fun c => ?_)
      · rw [n_le (by omega) (by omega)] at c
        refine Tm_suc (fun k => by rw [f_X2_advance]) ?_
        rw [sA_r5]
        refine mid _ l1 l6 ?_
        rw [lJ_same]
        show _ = if m < 8 then _ else _
        rw [if_neg (by omega)]
      · rw [n_le (by omega) (by omega)] at c
        refine Tm_chk (n_in (by omega) (show a + m < sN σ 38 by omega)) ?_
        rw [n_cl (p := a + m) (by omega), sA_r5]
        refine mid _ l1 l6 ?_
        rw [lJ_same]
        show _ = if m < 8 then _ else _
        rw [if_pos (by omega)]; rfl
    refine Tm_suc (fun k => by rw [f_X2_advance]) ?_
    rw [sA_r1, h1, l6, l5]
    refine Tm_ite (fun c => ?_) (fun c => ?_)
    · rw [n_le (by omega) (by omega)] at c
      exact stop (by omega)
    rw [n_le (by omega) (by omega)] at c
    refine Tm_ite (fun d => go ⟨by omega, Or.inl d⟩) (fun d1 => ?_)
    refine Tm_ite (fun d => go ⟨by omega, Or.inr (Or.inl d)⟩) (fun d2 => ?_)
    refine Tm_ite (fun d => go ⟨by omega, Or.inr (Or.inr d)⟩) (fun d3 => stop (fun h => h.2.elim d1 (fun h => h.elim d2 d3)))
/-- the words -/
theorem wd_loop {a e : Nat} (hae : a ≤ e) (he : e ≤ 32768) (h8 : e - a ≤ 8) {hi lo : Int64} : ∀ (m w : Nat) (kd : Int32) (L : LV), m + w = 53 → L.1 1 = nI a → L.1 6 = nI w → Tm (fun k => f_X2_advance k 43 L (sA σ kd (nI a) (nI e) hi lo)) (fun r => r = cTok σ (wdK (σ.2.2.2.1 39) hi m w kd) (nI a) (nI e) hi lo) := by
  intro m
  induction m with
  | zero =>
    intro w kd L hm l1 l6
    obtain rfl : w = 53 := by omega
    refine Tm_suc (fun k => by rw [f_X2_advance]) ?_
    rw [l6]
    refine Tm_ite (fun _ => ?_) (fun c => absurd (by decide) c)
    refine Tm_suc (fun k => by rw [f_X2_advance]) ?_
    exact adv_end _
  | succ m ih =>
    intro w kd L hm l1 l6
    refine Tm_suc (fun k => by rw [f_X2_advance]) ?_
    rw [l6, l1, sA_r4, n_sub (by omega) hae, show (Int32.ofNat 53) = nI 53 from rfl, show (8 : Int32) = nI 8 from rfl]
    refine Tm_ite (fun c => ?_) (fun _ => ?_)
    · rw [n_le (by omega) (by omega)] at c; omega
    refine Tm_ite (fun c => ?_) (fun _ => ?_)
    · rw [n_lt (by omega) (by omega)] at c; omega
    refine Tm_chk (n_in (by omega) (by omega)) ?_
    rw [n_cl (p := w) (by omega), sA_r5]
    have on : ∀ (x : Int32) (K : LV), K.1 1 = nI a → K.1 6 = nI w → K.1 100 = x → Tm (fun k => f_X2_advance k 53 K (sA σ kd (nI a) (nI e) hi lo)) (fun r => r = cTok σ (wdK (σ.2.2.2.1 39) hi m (w + 1) x) (nI a) (nI e) hi lo) := by
      intro x K k1 k6 k100
      refine Tm_suc (fun k => by rw [f_X2_advance]) ?_
      rw [k6, k100, n_add1, sA_w2]
      exact ih (w + 1) x _ (by omega) (by rw [lI_other (by decide)]; exact k1) (by rw [lI_same])
    show Tm _ (fun r => r = cTok σ (wdK (σ.2.2.2.1 39) hi m (w + 1) (if σ.2.2.2.1 39 w = hi then 32 + nI w else kd)) (nI a) (nI e) hi lo)
    refine Tm_ite (fun c => ?_) (fun c => ?_)
    · rw [if_pos (show σ.2.2.2.1 39 w = hi from nbCmp_0.mp c)]
      exact on _ _ (by rw [lI_other (by decide)]; exact l1) (by rw [lI_other (by decide)]; exact l6) (by rw [lI_same])
    · rw [if_neg (show ¬ σ.2.2.2.1 39 w = hi from fun h => c (nbCmp_0.mpr h))]
      refine Tm_suc (fun k => by rw [f_X2_advance]) ?_
      rw [sA_r2]
      exact on _ _ (by rw [lI_other (by decide)]; exact l1) (by rw [lI_other (by decide)]; exact l6) (by rw [lI_same])
end ADV
end JnS12
section JnS13
section ADV2
variable {σ : CS} {n : Nat}
theorem dg_loop (hn : cN σ n) {a : Nat} {hi lo : Int64} (Q : RS → Prop) : ∀ (f i : Nat) (L : LV) (en : Int32), n - i < f → a ≤ i → i ≤ n → (a < i → en = nI i) → L.1 1 = nI a → L.1 5 = nI i → (∀ (M : LV) (en' : Int32), M.1 1 = nI a → (a < dgE (σ.2.2.1 38) n f i → en' = nI (dgE (σ.2.2.1 38) n f i)) → Tm (fun k => f_X2_advance k 24 M (sA σ 3 (nI a) en' hi lo)) Q) → Tm (fun k => f_X2_advance k 20 L (sA σ 3 (nI a) en hi lo)) Q := by
  obtain ⟨h1, hN, hS, hS2, hfit, z0, z1⟩ := hn
  intro f
  induction f with
  | zero => intro i L en h; omega
  | succ f ih =>
    intro i L en hf hai hin hen l1 l5 t
    rw [dgE_step] at t
    have stop : ¬ (i < n ∧ ¬ σ.2.2.1 38 i < 48 ∧ ¬ 57 < σ.2.2.1 38 i) → Tm (fun k => f_X2_advance k 24 L (sA σ 3 (nI a) en hi lo)) Q := fun h => by
      rw [if_neg h] at t
      exact t L en l1 hen
    refine Tm_suc (fun k => by rw [f_X2_advance]) ?_
    rw [sA_r1, h1, l5]
    refine Tm_ite (fun c => ?_) (fun c => ?_)
    · rw [n_le (by omega) (by omega)] at c
      exact stop (by omega)
    rw [n_le (by omega) (by omega)] at c
    refine Tm_chk (n_in (by omega) (show i < sN σ 38 by omega)) ?_
    rw [n_cl (p := i) (by omega)]
    show Tm (fun k => if σ.2.2.1 38 i < 48 then _ else _) Q
    refine Tm_ite (fun d => stop (fun h => h.2.1 d)) (fun d => ?_)
    refine Tm_chk (by rw [i_lt, n_int (p := i) (by omega), i_c0]; show ¬ (_ ∨ sN σ 38 ≤ i); omega) ?_
    show Tm (fun k => if 57 < σ.2.2.1 38 i then _ else _) Q
    refine Tm_ite (fun g => stop (fun h => h.2.2 g)) (fun g => ?_)
    rw [if_pos ⟨by omega, d, g⟩] at t
    rw [n_add1, sA_w4]
    exact ih (i + 1) _ _ (by omega) (by omega) (by omega) (fun _ => rfl) (by rw [lI_other (by decide)]; exact l1) (by rw [lI_same]) t
theorem sg_loop (hn : cN σ n) {a : Nat} {hi lo : Int64} (Q : RS → Prop) : ∀ (f i : Nat) (L : LV), n - i < f → i ≤ n → L.1 1 = nI a → L.1 5 = nI i → (∀ (M : LV), M.1 1 = nI a → Tm (fun k => f_X2_advance k 29 M (sA σ 4 (nI a) (nI (sgE (σ.2.2.1 38) n f i)) hi lo)) Q) → Tm (fun k => f_X2_advance k 23 L (sA σ 4 (nI a) (nI i) hi lo)) Q := by
  obtain ⟨h1, hN, hS, hS2, hfit, z0, z1⟩ := hn
  intro f
  induction f with
  | zero => intro i L h; omega
  | succ f ih =>
    intro i L hf hin l1 l5 t
    rw [sgE_step] at t
    have stop : ¬ (i < n ∧ ¬ σ.2.2.1 38 i &&& 255 < 32 ∧ ¬ σ.2.2.1 38 i = 34) → Tm (fun k => f_X2_advance k 29 L (sA σ 4 (nI a) (nI i) hi lo)) Q := fun h => by
      rw [if_neg h] at t
      exact t L l1
    refine Tm_suc (fun k => by rw [f_X2_advance]) ?_
    rw [sA_r1, h1, l5]
    refine Tm_ite (fun c => ?_) (fun c => ?_)
    · rw [n_le (by omega) (by omega)] at c
      exact stop (by omega)
    rw [n_le (by omega) (by omega)] at c
    refine Tm_chk (n_in (by omega) (show i < sN σ 38 by omega)) ?_
    rw [n_cl (p := i) (by omega)]
    show Tm (fun k => if σ.2.2.1 38 i &&& 255 < 32 then _ else _) Q
    refine Tm_ite (fun d => stop (fun h => h.2.1 d)) (fun d => ?_)
    refine Tm_chk (by rw [i_lt, n_int (p := i) (by omega), i_c0]; show ¬ (_ ∨ sN σ 38 ≤ i); omega) ?_
    show Tm (fun k => if σ.2.2.1 38 i = 34 then _ else _) Q
    refine Tm_ite (fun g => stop (fun h => h.2.2 g)) (fun g => ?_)
    rw [if_pos ⟨by omega, d, g⟩] at t
    rw [n_add1, sA_w4]
    exact ih (i + 1) _ (by omega) (by omega) (by rw [lI_other (by decide)]; exact l1) (by rw [lI_same]) t
end ADV2
/-- a sign of two bytes: its kind, and whether there is a second byte -/
def sgK (kd nx : Int32) : Int32 × Nat :=
  if nx = 61 ∧ (kd = 27 ∨ kd = 22 ∨ kd = 24 ∨ kd = 18) then (if kd = 18 then 5 else if kd = 27 then 21 else kd + 1, 1)
  else if (kd = 8 ∧ nx = 42) ∨ (kd = 29 ∧ nx = 46) then (if kd = 8 then 9 else 28, 1)
  else (kd, 0)
/-- a token that begins at q: its kind, its end, the bytes of a name (those of the one before, where it is none) -/
def tokC (W : Nat → Int64) (hi lo : Int64) (R : Nat → Int32) (n q : Nat) : Int32 × Nat × Int64 × Int64 :=
  if n ≤ q then (1, q, hi, lo)
  else if cls (R q) = 2 then
    (if nmE R n (n + 1) q - q ≤ 8 then wdK W (keyH R q (nmE R n (n + 1) q - q)) 53 0 2 else if nmE R n (n + 1) q - q ≤ 16 then 2 else 0, nmE R n (n + 1) q, keyH R q (nmE R n (n + 1) q - q), keyL R q (nmE R n (n + 1) q - q))
  else if cls (R q) = 3 then (if dgE R n (n + 1) q - q ≤ 60 then 3 else 0, dgE R n (n + 1) q, hi, lo)
  else if cls (R q) = 4 then (if (sgE R n (n + 1) (q + 1) < n ∧ R (sgE R n (n + 1) (q + 1)) = 34) ∧ sgE R n (n + 1) (q + 1) - q - 1 ≤ 100 then 4 else 0, sgE R n (n + 1) (q + 1) + 1, hi, lo)
  else ((sgK (cls (R q)) (R (q + 1))).1, q + 1 + (sgK (cls (R q)) (R (q + 1))).2, hi, lo)
theorem lxC_dig : ∀ c : Nat, c < 128 → lxC.getD c 0 = 3 → 48 ≤ c ∧ c ≤ 57 := by decide +kernel
theorem cls_dig {c : Int32} (hf : fits .byte (.int c) = true) (h : cls c = 3) : ¬ c < 48 ∧ ¬ 57 < c := by
  unfold cls at h
  by_cases h0 : c < 0
  · rw [if_pos h0] at h; exact absurd h (by decide)
  · rw [if_neg h0] at h
    have hb := fits_byte' hf
    rw [i_lt, i_c0] at h0
    have hc := i_clamp (x := c) (by omega)
    have := lxC_dig c.toNatClampNeg (by omega) h
    rw [i_lt, i_lt, show (48 : Int32).toInt = 48 from rfl, show (57 : Int32).toInt = 57 from rfl]
    omega
theorem s_advance {σ : CS} {n p : Nat} (hn : cN σ n) (h4 : σ.1 3704 = nI p) (hp : p ≤ n) (L : LV) : Tm (fun k => f_X2_advance k 0 L σ) (fun r => ∀ (q : Nat) (t : Int32 × Nat × Int64 × Int64), q = cSk (σ.2.2.1 38) n (n + 1) false p → t = tokC (σ.2.2.2.1 39) (σ.2.1 3705) (σ.2.1 3706) (σ.2.2.1 38) n q → r = cTok σ t.1 (nI q) (nI t.2.1) t.2.2.1 t.2.2.2) := by
  have hcn := hn
  obtain ⟨h1, hN, hS, hS2, hfit, z0, z1⟩ := hn
  have hq : cSk (σ.2.2.1 38) n (n + 1) false p ≤ n := cSk_le _ _ _ _ _ hp
  refine Tm_suc (fun k => by rw [f_X2_advance]) ?_
  refine between_loop hcn _ (n + 1) false p _ (by omega) hp ?_ ?_ ?_ ?_ (fun M m1 => ?_)
  · rw [lI_other (by decide), lI_other (by decide), lI_other (by decide), lI_same]; exact h4
  · rw [lI_other (by decide), lI_other (by decide), lI_same]; rfl
  · rw [lI_other (by decide), lI_same]
  · rw [lI_same]; exact h4
  generalize cSk (σ.2.2.1 38) n (n + 1) false p = q at hq m1
  suffices hh : Tm (fun k => f_X2_advance k 2 M σ) (fun r => r = cTok σ (tokC (σ.2.2.2.1 39) (σ.2.1 3705) (σ.2.1 3706) (σ.2.2.1 38) n q).1 (nI q) (nI (tokC (σ.2.2.2.1 39) (σ.2.1 3705) (σ.2.1 3706) (σ.2.2.1 38) n q).2.1) (tokC (σ.2.2.2.1 39) (σ.2.1 3705) (σ.2.1 3706) (σ.2.2.1 38) n q).2.2.1 (tokC (σ.2.2.2.1 39) (σ.2.1 3705) (σ.2.1 3706) (σ.2.2.1 38) n q).2.2.2) from
    Tm_mono hh (fun r hr q' t hq' ht => by subst hq'; subst ht; exact hr)
  have hself := sA_self (σ := σ)
  generalize σ.1 3702 = kd0 at hself
  generalize σ.1 3703 = st0 at hself
  generalize σ.1 3704 = en0 at hself
  generalize hhi : σ.2.1 3705 = hi0 at hself ⊢
  generalize hlo : σ.2.1 3706 = lo0 at hself ⊢
  -- from 12 on: the kind is in 100
  have twelve : ∀ (K : LV) (en : Nat), K.1 1 = nI q → K.1 100 = (if n ≤ q then 1 else cls (σ.2.2.1 38 q)) → en = (if n ≤ q then q else q + 1) → Tm (fun k => f_X2_advance k 12 K (sA σ kd0 (nI q) (nI en) hi0 lo0)) (fun r => r = cTok σ (tokC (σ.2.2.2.1 39) hi0 lo0 (σ.2.2.1 38) n q).1 (nI q) (nI (tokC (σ.2.2.2.1 39) hi0 lo0 (σ.2.2.1 38) n q).2.1) (tokC (σ.2.2.2.1 39) hi0 lo0 (σ.2.2.1 38) n q).2.2.1 (tokC (σ.2.2.2.1 39) hi0 lo0 (σ.2.2.1 38) n q).2.2.2) := by
    intro K en k1 k100 hen
    have hen2 : en < n + 2 := by rw [hen]; split <;> omega
    refine Tm_suc (fun k => by rw [f_X2_advance]) ?_
    rw [k100, sA_w2, sA_r4, sA_r2]
    refine Tm_chk (n_in (by omega) (show en < sN σ 38 by omega)) ?_
    rw [n_cl (p := en) (by omega)]
    unfold tokC
    by_cases c : n ≤ q
    · -- the end of the tape
      obtain rfl : q = n := by omega
      have hen : en = q := by rw [hen, if_pos (Nat.le_refl _)]
      subst hen
      simp only [if_pos (Nat.le_refl en)]
      refine Tm_ite (fun d => absurd d (by decide)) (fun _ => ?_)
      refine Tm_suc (fun k => by rw [f_X2_advance]) ?_
      rw [sA_r2]
      refine Tm_ite (fun d => absurd d (by decide)) (fun _ => ?_)
      refine Tm_suc (fun k => by rw [f_X2_advance]) ?_
      rw [sA_r2]
      refine Tm_ite (fun d => absurd d (by decide)) (fun _ => ?_)
      refine Tm_suc (fun k => by rw [f_X2_advance]) ?_
      rw [lI_same]
      show Tm (fun k => if σ.2.2.1 38 en = 61 then _ else _) _
      rw [z0]
      refine Tm_ite (fun d => absurd d (by decide)) (fun _ => ?_)
      refine Tm_suc (fun k => by rw [f_X2_advance]) ?_
      rw [sA_r2]
      refine Tm_ite (fun d => absurd d (by decide)) (fun _ => ?_)
      refine Tm_suc (fun k => by rw [f_X2_advance]) ?_
      rw [sA_r2]
      refine Tm_ite (fun d => absurd d (by decide)) (fun _ => ?_)
      exact adv_end _
    have hen : en = q + 1 := by rw [hen, if_neg c]
    subst hen
    simp only [if_neg c]
    have hb := hfit q (by omega)
    refine Tm_ite (fun d => ?_) (fun d => ?_)
    · -- a name
      rw [if_pos d]
      have hE := nmE_le (σ.2.2.1 38) n (n + 1) q hq
      refine Tm_suc (fun k => by rw [f_X2_advance]) ?_
      rw [sA_w5, sA_w6, d]
      have := nm_loop hcn (a := q) (fun r => r = cTok σ (if nmE (σ.2.2.1 38) n (n + 1) q - q ≤ 8 then wdK (σ.2.2.2.1 39) (keyH (σ.2.2.1 38) q (nmE (σ.2.2.1 38) n (n + 1) q - q)) 53 0 2 else if nmE (σ.2.2.1 38) n (n + 1) q - q ≤ 16 then 2 else 0) (nI q) (nI (nmE (σ.2.2.1 38) n (n + 1) q)) (keyH (σ.2.2.1 38) q (nmE (σ.2.2.1 38) n (n + 1) q - q)) (keyL (σ.2.2.1 38) q (nmE (σ.2.2.1 38) n (n + 1) q - q))) (n + 1) q (lI (lI K 5 2) 6 (K.1 1)) (nI (q + 1)) (by omega) (Nat.le_refl _) hq (fun _ => ⟨by omega, Or.inl d⟩) (fun h => absurd h (Nat.lt_irrefl _)) (by rw [lI_other (by decide), lI_other (by decide)]; exact k1) (by rw [lI_other (by decide), lI_same, d]) (by rw [lI_same]; exact k1) ?_
      · rw [Nat.sub_self] at this
        exact this
      intro N n1 hlt
      generalize nmE (σ.2.2.1 38) n (n + 1) q = e at hE hlt ⊢
      -- 33: the kind before the words
      have kind : ∀ (x : Int32) (J : LV), J.1 1 = nI q → J.1 100 = x → (x = if e - q ≤ 16 then 2 else 0) → Tm (fun k => f_X2_advance k 33 J (sA σ 2 (nI q) (nI e) (keyH (σ.2.2.1 38) q (e - q)) (keyL (σ.2.2.1 38) q (e - q)))) (fun r => r = cTok σ (if e - q ≤ 8 then wdK (σ.2.2.2.1 39) (keyH (σ.2.2.1 38) q (e - q)) 53 0 2 else if e - q ≤ 16 then 2 else 0) (nI q) (nI e) (keyH (σ.2.2.1 38) q (e - q)) (keyL (σ.2.2.1 38) q (e - q))) := by
        intro x J j1 j100 hx
        refine Tm_suc (fun k => by rw [f_X2_advance]) ?_
        rw [j100, sA_w2]
        by_cases h8 : e - q ≤ 8
        · rw [if_pos h8]
          rw [if_pos (by omega)] at hx
          rw [hx]
          exact wd_loop (by omega) (by omega) h8 53 0 2 _ rfl (by rw [lI_other (by decide)]; exact j1) (by rw [lI_same]; rfl)
        · rw [if_neg h8, ← hx]
          refine Tm_suc (fun k => by rw [f_X2_advance]) ?_
          rw [lI_same]
          refine Tm_ite (fun g => absurd g (by decide)) (fun _ => ?_)
          rw [sA_r4, lI_other (by decide), j1, n_sub (by omega) (by omega), show (8 : Int32) = nI 8 from rfl]
          refine Tm_ite (fun _ => ?_) (fun g => ?_)
          · refine Tm_suc (fun k => by rw [f_X2_advance]) ?_
            exact adv_end _
          · rw [n_lt (by omega) (by omega)] at g; omega
      refine Tm_suc (fun k => by rw [f_X2_advance]) ?_
      rw [sA_r4, n1, n_sub (by omega) (by omega), show (16 : Int32) = nI 16 from rfl]
      refine Tm_ite (fun g => ?_) (fun g => ?_)
      · rw [n_le (by omega) (by omega)] at g
        refine Tm_suc (fun k => by rw [f_X2_advance]) ?_
        exact kind 2 _ (by rw [lI_other (by decide)]; exact n1) (by rw [lI_same]) (by rw [if_pos g])
      · rw [n_le (by omega) (by omega)] at g
        exact kind 0 _ (by rw [lI_other (by decide)]; exact n1) (by rw [lI_same]) (by rw [if_neg g])
    rw [if_neg d]
    refine Tm_suc (fun k => by rw [f_X2_advance]) ?_
    rw [sA_r2]
    refine Tm_ite (fun d3 => ?_) (fun d3 => ?_)
    · -- a number
      rw [if_pos d3, d3]
      have hE := dgE_le (σ.2.2.1 38) n (n + 1) q hq
      have hlt : q < dgE (σ.2.2.1 38) n (n + 1) q := by
        rw [dgE_step, if_pos ⟨by omega, cls_dig hb d3⟩]
        have := dgE_ge (σ.2.2.1 38) n n (q + 1)
        omega
      refine dg_loop hcn _ (n + 1) q _ (nI (q + 1)) (by omega) (Nat.le_refl _) hq (fun h => absurd h (Nat.lt_irrefl _)) (by rw [lI_other (by decide), lI_other (by decide)]; exact k1) (by rw [lI_same, lI_other (by decide)]; exact k1) (fun N en' n1 he => ?_)
      rw [he hlt]
      clear he
      generalize dgE (σ.2.2.1 38) n (n + 1) q = e at hE hlt ⊢
      have last : ∀ (x : Int32) (J : LV), J.1 100 = x → Tm (fun k => f_X2_advance k 31 J (sA σ 3 (nI q) (nI e) hi0 lo0)) (fun r => r = cTok σ x (nI q) (nI e) hi0 lo0) := fun x J hx => by
        refine Tm_suc (fun k => by rw [f_X2_advance]) ?_
        rw [hx, sA_w2]
        exact adv_end _
      refine Tm_suc (fun k => by rw [f_X2_advance]) ?_
      rw [sA_r4, n1, n_sub (by omega) (by omega), show (60 : Int32) = nI 60 from rfl]
      refine Tm_ite (fun g => ?_) (fun g => ?_)
      · rw [n_le (by omega) (by omega)] at g
        rw [if_pos g]
        refine Tm_suc (fun k => by rw [f_X2_advance]) ?_
        exact last 3 _ (by rw [lI_same])
      · rw [n_le (by omega) (by omega)] at g
        rw [if_neg g]
        exact last 0 _ (by rw [lI_same])
    rw [if_neg d3]
    refine Tm_suc (fun k => by rw [f_X2_advance]) ?_
    rw [sA_r2]
    refine Tm_ite (fun d4 => ?_) (fun d4 => ?_)
    · -- a string
      rw [if_pos d4, d4]
      have hE := sgE_le (σ.2.2.1 38) n (n + 1) (q + 1) (by omega)
      have hG := sgE_ge (σ.2.2.1 38) n (n + 1) (q + 1)
      refine sg_loop hcn _ (n + 1) (q + 1) _ (by omega) (by omega) (by rw [lI_other (by decide), lI_other (by decide)]; exact k1) (by rw [lI_same, lI_other (by decide), k1, n_add1]) (fun N n1 => ?_)
      generalize sgE (σ.2.2.1 38) n (n + 1) (q + 1) = e at hE hG ⊢
      have last : ∀ (x : Int32) (J : LV), J.1 100 = x → Tm (fun k => f_X2_advance k 41 J (sA σ 4 (nI q) (nI e) hi0 lo0)) (fun r => r = cTok σ x (nI q) (nI (e + 1)) hi0 lo0) := fun x J hx => by
        refine Tm_suc (fun k => by rw [f_X2_advance]) ?_
        rw [hx, sA_w2, sA_r4, n_add1, sA_w4]
        exact adv_end _
      have no : ¬ ((e < n ∧ σ.2.2.1 38 e = 34) ∧ e - q - 1 ≤ 100) → Tm (fun k => f_X2_advance k 40 N (sA σ 4 (nI q) (nI e) hi0 lo0)) (fun r => r = cTok σ (if (e < n ∧ σ.2.2.1 38 e = 34) ∧ e - q - 1 ≤ 100 then 4 else 0) (nI q) (nI (e + 1)) hi0 lo0) := fun h => by
        rw [if_neg h]
        refine Tm_suc (fun k => by rw [f_X2_advance]) ?_
        exact last 0 _ (by rw [lI_same])
      refine Tm_suc (fun k => by rw [f_X2_advance]) ?_
      rw [sA_r1, h1, sA_r4]
      refine Tm_ite (fun g => ?_) (fun g => ?_)
      · rw [n_le (by omega) (by omega)] at g
        exact no (by omega)
      rw [n_le (by omega) (by omega)] at g
      refine Tm_chk (n_in (by omega) (show e < sN σ 38 by omega)) ?_
      rw [n_cl (p := e) (by omega)]
      show Tm (fun k => if σ.2.2.1 38 e = 34 then _ else _) _
      refine Tm_ite (fun g34 => ?_) (fun g34 => no (fun h => g34 h.1.2))
      rw [n1, n_sub (by omega) (by omega), show nI (e - q) - 1 = nI (e - q - 1) from n_sub (q := 1) (by omega) (by omega), show (100 : Int32) = nI 100 from rfl]
      refine Tm_ite (fun g100 => ?_) (fun g100 => ?_)
      · rw [n_lt (by omega) (by omega)] at g100
        exact no (by omega)
      · rw [n_lt (by omega) (by omega)] at g100
        rw [if_pos ⟨⟨by omega, g34⟩, by omega⟩]
        exact last 4 _ (by rw [lI_same])
    rw [if_neg d4]
    refine Tm_suc (fun k => by rw [f_X2_advance]) ?_
    rw [sA_r2, lI_same]
    have e38 : (sA σ (cls (σ.2.2.1 38 q)) (nI q) (nI (q + 1)) hi0 lo0).2.2.1 38 (q + 1) = σ.2.2.1 38 (q + 1) := rfl
    rw [e38]
    clear e38
    generalize σ.2.2.1 38 (q + 1) = nx at *
    generalize cls (σ.2.2.1 38 q) = kd at *
    -- two bytes
    have step : ∀ (x : Int32), Tm (fun k => f_X2_advance k 42 (lI (lI K 4 nx) 100 x) (sA σ x (nI q) (nI (q + 1 + 1)) hi0 lo0)) (fun r => r = cTok σ x (nI q) (nI (q + 1 + 1)) hi0 lo0) := fun x => adv_end _
    have first : nx = 61 → (kd = 27 ∨ kd = 22 ∨ kd = 24 ∨ kd = 18) → Tm (fun k => f_X2_advance k 28 (lI K 4 nx) (sA σ kd (nI q) (nI (q + 1)) hi0 lo0)) (fun r => r = cTok σ (sgK kd nx).1 (nI q) (nI (q + 1 + (sgK kd nx).2)) hi0 lo0) := by
      intro e1 e2
      unfold sgK
      rw [if_pos ⟨e1, e2⟩]
      have l39 : ∀ (x : Int32) (J : LV), J.1 100 = x → Tm (fun k => f_X2_advance k 39 J (sA σ kd (nI q) (nI (q + 1)) hi0 lo0)) (fun r => r = cTok σ x (nI q) (nI (q + 1 + 1)) hi0 lo0) := fun x J hx => by
        refine Tm_suc (fun k => by rw [f_X2_advance]) ?_
        rw [hx, sA_w2, sA_r4, n_add1, sA_w4]
        exact adv_end _
      refine Tm_suc (fun k => by rw [f_X2_advance]) ?_
      rw [sA_r2]
      refine Tm_ite (fun g => ?_) (fun g => ?_)
      · rw [if_pos g]; exact l39 5 _ (by rw [lI_same])
      · rw [if_neg g]
        refine Tm_suc (fun k => by rw [f_X2_advance]) ?_
        rw [sA_r2]
        refine Tm_ite (fun g2 => ?_) (fun g2 => ?_)
        · rw [if_pos g2]; exact l39 21 _ (by rw [lI_same])
        · rw [if_neg g2]
          refine Tm_suc (fun k => by rw [f_X2_advance]) ?_
          rw [sA_r2]
          exact l39 _ _ (by rw [lI_same])
    have second : ¬ (nx = 61 ∧ (kd = 27 ∨ kd = 22 ∨ kd = 24 ∨ kd = 18)) → Tm (fun k => f_X2_advance k 27 (lI K 4 nx) (sA σ kd (nI q) (nI (q + 1)) hi0 lo0)) (fun r => r = cTok σ (sgK kd nx).1 (nI q) (nI (q + 1 + (sgK kd nx).2)) hi0 lo0) := by
      intro hno
      unfold sgK
      rw [if_neg hno]
      have l47 : ∀ (x : Int32) (J : LV), J.1 100 = x → Tm (fun k => f_X2_advance k 47 J (sA σ kd (nI q) (nI (q + 1)) hi0 lo0)) (fun r => r = cTok σ x (nI q) (nI (q + 1 + 1)) hi0 lo0) := fun x J hx => by
        refine Tm_suc (fun k => by rw [f_X2_advance]) ?_
        rw [hx, sA_w2, sA_r4, n_add1, sA_w4]
        exact adv_end _
      have l37 : (kd = 8 ∧ nx = 42) ∨ (kd = 29 ∧ nx = 46) → Tm (fun k => f_X2_advance k 37 (lI K 4 nx) (sA σ kd (nI q) (nI (q + 1)) hi0 lo0)) (fun r => r = cTok σ (if (kd = 8 ∧ nx = 42) ∨ (kd = 29 ∧ nx = 46) then ((if kd = 8 then 9 else 28, 1) : Int32 × Nat) else (kd, 0)).1 (nI q) (nI (q + 1 + (if (kd = 8 ∧ nx = 42) ∨ (kd = 29 ∧ nx = 46) then ((if kd = 8 then 9 else 28, 1) : Int32 × Nat) else (kd, 0)).2)) hi0 lo0) := fun h => by
        rw [if_pos h]
        refine Tm_suc (fun k => by rw [f_X2_advance]) ?_
        rw [sA_r2]
        refine Tm_ite (fun g => ?_) (fun g => ?_)
        · rw [if_pos g]; exact l47 9 _ (by rw [lI_same])
        · rw [if_neg g]
          refine Tm_suc (fun k => by rw [f_X2_advance]) ?_
          exact l47 28 _ (by rw [lI_same])
      have l42 : ¬ ((kd = 8 ∧ nx = 42) ∨ (kd = 29 ∧ nx = 46)) → Tm (fun k => f_X2_advance k 42 (lI K 4 nx) (sA σ kd (nI q) (nI (q + 1)) hi0 lo0)) (fun r => r = cTok σ (if (kd = 8 ∧ nx = 42) ∨ (kd = 29 ∧ nx = 46) then ((if kd = 8 then 9 else 28, 1) : Int32 × Nat) else (kd, 0)).1 (nI q) (nI (q + 1 + (if (kd = 8 ∧ nx = 42) ∨ (kd = 29 ∧ nx = 46) then ((if kd = 8 then 9 else 28, 1) : Int32 × Nat) else (kd, 0)).2)) hi0 lo0) := fun h => by
        rw [if_neg h]
        exact adv_end _
      have l36 : ¬ (kd = 8 ∧ nx = 42) → Tm (fun k => f_X2_advance k 36 (lI K 4 nx) (sA σ kd (nI q) (nI (q + 1)) hi0 lo0)) (fun r => r = cTok σ (if (kd = 8 ∧ nx = 42) ∨ (kd = 29 ∧ nx = 46) then ((if kd = 8 then 9 else 28, 1) : Int32 × Nat) else (kd, 0)).1 (nI q) (nI (q + 1 + (if (kd = 8 ∧ nx = 42) ∨ (kd = 29 ∧ nx = 46) then ((if kd = 8 then 9 else 28, 1) : Int32 × Nat) else (kd, 0)).2)) hi0 lo0) := fun h => by
        refine Tm_suc (fun k => by rw [f_X2_advance]) ?_
        rw [sA_r2, lI_same]
        refine Tm_ite (fun g => ?_) (fun g => l42 (fun q => q.elim h (fun q => g q.1)))
        exact Tm_ite (fun g2 => l37 (Or.inr ⟨g, g2⟩)) (fun g2 => l42 (fun q => q.elim h (fun q => g2 q.2)))
      refine Tm_suc (fun k => by rw [f_X2_advance]) ?_
      rw [sA_r2, lI_same]
      refine Tm_ite (fun g => ?_) (fun g => l36 (fun q => g q.1))
      exact Tm_ite (fun g2 => l37 (Or.inl ⟨g, g2⟩)) (fun g2 => l36 (fun q => g2 q.2))
    refine Tm_ite (fun e61 => ?_) (fun e61 => second (fun h => e61 h.1))
    refine Tm_ite (fun g => first e61 (Or.inl g)) (fun g1 => ?_)
    refine Tm_ite (fun g => first e61 (Or.inr (Or.inl g))) (fun g2 => ?_)
    refine Tm_ite (fun g => first e61 (Or.inr (Or.inr (Or.inl g)))) (fun g3 => ?_)
    exact Tm_ite (fun g => first e61 (Or.inr (Or.inr (Or.inr g)))) (fun g4 => second (fun h => h.2.elim g1 (fun h => h.elim g2 (fun h => h.elim g3 g4))))
  have seven : ∀ (K : LV) (en : Nat), K.1 1 = nI q → K.1 100 = nI en → en = (if n ≤ q then q else q + 1) → Tm (fun k => f_X2_advance k 7 K (sA σ kd0 (nI q) en0 hi0 lo0)) (fun r => r = cTok σ (tokC (σ.2.2.2.1 39) hi0 lo0 (σ.2.2.1 38) n q).1 (nI q) (nI (tokC (σ.2.2.2.1 39) hi0 lo0 (σ.2.2.1 38) n q).2.1) (tokC (σ.2.2.2.1 39) hi0 lo0 (σ.2.2.1 38) n q).2.2.1 (tokC (σ.2.2.2.1 39) hi0 lo0 (σ.2.2.1 38) n q).2.2.2) := by
    intro K en k1 k100 hen
    refine Tm_suc (fun k => by rw [f_X2_advance]) ?_
    rw [k1, k100, sA_w4, sA_r1, h1]
    refine Tm_ite (fun c => ?_) (fun c => ?_)
    · rw [n_lt (by omega) (by omega)] at c
      have hb := hfit q (by omega)
      refine Tm_suc (fun k => by rw [f_X2_advance]) ?_
      rw [k1]
      refine Tm_chk (n_in (by omega) (show q < sN σ 38 by omega)) ?_
      rw [n_cl (p := q) (by omega)]
      show Tm (fun k => if 0 ≤ σ.2.2.1 38 q then _ else _) _
      refine Tm_ite (fun g => ?_) (fun g => ?_)
      · have hc : ¬ σ.2.2.1 38 q < 0 := Int32.not_lt.mpr g
        refine Tm_suc (fun k => by rw [f_X2_advance]) ?_
        rw [k1]
        refine Tm_chk (n_in (by omega) (show q < sN σ 38 by omega)) ?_
        rw [n_cl (p := q) (by omega)]
        refine Tm_chk (byte_in hb hc) ?_
        exact twelve _ en (by rw [lI_other (by decide)]; exact k1) (by rw [lI_same, if_neg (by omega)]; unfold cls; rw [if_neg hc]; rfl) hen
      · have hc : σ.2.2.1 38 q < 0 := Int32.not_le.mp g
        exact twelve _ en (by rw [lI_other (by decide)]; exact k1) (by rw [lI_same, if_neg (by omega)]; unfold cls; rw [if_pos hc]) hen
    · rw [n_lt (by omega) (by omega)] at c
      exact twelve _ en (by rw [lI_other (by decide)]; exact k1) (by rw [lI_same, if_pos (by omega)]) hen
  have goal2 : Tm (fun k => f_X2_advance k 2 M (sA σ kd0 st0 en0 hi0 lo0)) (fun r => r = cTok σ (tokC (σ.2.2.2.1 39) hi0 lo0 (σ.2.2.1 38) n q).1 (nI q) (nI (tokC (σ.2.2.2.1 39) hi0 lo0 (σ.2.2.1 38) n q).2.1) (tokC (σ.2.2.2.1 39) hi0 lo0 (σ.2.2.1 38) n q).2.2.1 (tokC (σ.2.2.2.1 39) hi0 lo0 (σ.2.2.1 38) n q).2.2.2) := by
    refine Tm_suc (fun k => by rw [f_X2_advance]) ?_
    rw [m1, sA_w3, sA_r1, h1, n_add1]
    refine Tm_ite (fun c => ?_) (fun c => ?_)
    · rw [n_le (by omega) (by omega)] at c
      refine Tm_suc (fun k => by rw [f_X2_advance]) ?_
      rw [m1]
      exact seven (lI M 100 (nI q)) q (by rw [lI_other (by decide)]; exact m1) (by rw [lI_same]) (by rw [if_pos c])
    · rw [n_le (by omega) (by omega)] at c
      exact seven (lI M 100 (nI (q + 1))) (q + 1) (by rw [lI_other (by decide)]; exact m1) (by rw [lI_same]) (by rw [if_neg c])
  rw [hself] at goal2
  exact goal2
end JnS13
section JnS14
/-! Both sides have the same bytes: what the one skips the other does. -/
set_option maxRecDepth 20000 in
theorem u8_all : ∀ k : Nat, k < 256 → (Int32.ofInt ((k : Int) - 128) &&& 255).toInt = if 128 ≤ k then (k : Int) - 128 else (k : Int) + 128 := by decide +kernel
theorem u8_int {c : Int32} (h : fits .byte (.int c) = true) : (c &&& 255).toInt = if 0 ≤ c.toInt then c.toInt else c.toInt + 256 := by
  have hb := fits_byte' h
  have e : c = Int32.ofInt (((c.toInt + 128).toNat : Int) - 128) := by
    rw [i_eq, Int32.toInt_ofInt_of_le (by omega) (by omega)]; omega
  have := u8_all (c.toInt + 128).toNat (by omega)
  rw [← e] at this
  rw [this]
  by_cases g : 0 ≤ c.toInt
  · rw [if_pos g, if_pos (by omega)]; omega
  · rw [if_neg g, if_neg (by omega)]; omega
theorem u8_eq {c : Int32} (h : fits .byte (.int c) = true) {k : Int32} (h0 : 0 ≤ k.toInt) (h1 : k.toInt ≤ 127) : c &&& 255 = k ↔ c = k := by
  have hb := fits_byte' h
  rw [i_eq, i_eq, u8_int h]
  by_cases g : 0 ≤ c.toInt
  · rw [if_pos g]
  · rw [if_neg g]; omega
/-- T has the bytes of R -/
def sameT (T R : Nat → Int32) (n : Nat) : Prop := (∀ i, i < n → T i = R i &&& 255) ∧ (∀ i, i < n + 2 → fits .byte (.int (R i)) = true) ∧ R n = 0 ∧ R (n + 1) = 0
section SAME
variable {T R : Nat → Int32} {n : Nat}
theorem same_eq (h : sameT T R n) {i : Nat} (hi : i < n) {k : Int32} (h0 : 0 ≤ k.toInt) (h1 : k.toInt ≤ 127) : T i = k ↔ R i = k := by
  rw [h.1 i hi]; exact u8_eq (h.2.1 i (by omega)) h0 h1
/-- behind the tape both are 0 -/
theorem same_rB (h : sameT T R n) {i : Nat} (hi : i ≤ n + 1) {k : Int32} (h0 : 0 < k.toInt) (h1 : k.toInt ≤ 127) : rB T n i = k ↔ R i = k := by
  unfold rB
  by_cases c : i < n
  · rw [if_pos c]; exact same_eq h c (by omega) h1
  · rw [if_neg c]
    have : R i = 0 := by
      rcases (show i = n ∨ i = n + 1 by omega) with e | e
      · rw [e]; exact h.2.2.1
      · rw [e]; exact h.2.2.2
    rw [this]
theorem lxC_blank : ∀ c : Nat, c < 128 → (lxC.getD c 0 = 31 ↔ (c = 9 ∨ c = 10 ∨ c = 13 ∨ c = 32)) := by decide +kernel
theorem cls_blank {c : Int32} (hf : fits .byte (.int c) = true) : cls c = 31 ↔ isB c := by
  unfold cls
  have hb := fits_byte' hf
  unfold isB
  rw [i_eq (x := c) (y := 9), i_eq (x := c) (y := 10), i_eq (x := c) (y := 13), i_eq (x := c) (y := 32), show (9 : Int32).toInt = 9 from rfl, show (10 : Int32).toInt = 10 from rfl, show (13 : Int32).toInt = 13 from rfl, show (32 : Int32).toInt = 32 from rfl]
  by_cases h0 : c < 0
  · rw [if_pos h0]
    rw [i_lt, i_c0] at h0
    exact ⟨fun q => absurd q (by decide), fun q => by omega⟩
  · rw [if_neg h0]
    rw [i_lt, i_c0] at h0
    have hc := i_clamp (x := c) (by omega)
    rw [lxC_blank c.toNatClampNeg (by omega)]
    omega
theorem same_blank (h : sameT T R n) {i : Nat} (hi : i < n) : isB (T i) ↔ cls (R i) = 31 := by
  rw [cls_blank (h.2.1 i (by omega))]
  unfold isB
  rw [same_eq h hi (k := 9) (by decide) (by decide), same_eq h hi (k := 10) (by decide) (by decide), same_eq h hi (k := 13) (by decide) (by decide), same_eq h hi (k := 32) (by decide) (by decide)]
theorem noteE_step {f p : Nat} : noteE T n (f + 1) p = if p < n ∧ ¬ T p = 10 then noteE T n f (p + 1) else p := rfl
/-- the fuel does not matter -/
theorem noteE_fuel : ∀ (d p f g : Nat), n - p ≤ d → n - p ≤ f → n - p ≤ g → noteE T n f p = noteE T n g p
  | 0, p, f, g, hd, hf, hg => by
    have a : ∀ f : Nat, noteE T n f p = p := fun f => by
      cases f with
      | zero => rfl
      | succ f => rw [noteE_step, if_neg (by omega)]
    rw [a f, a g]
  | d + 1, p, f, g, hd, hf, hg => by
    by_cases c : p < n ∧ ¬ T p = 10
    · obtain ⟨f, rfl⟩ : ∃ m, f = m + 1 := ⟨f - 1, by omega⟩
      obtain ⟨g, rfl⟩ : ∃ m, g = m + 1 := ⟨g - 1, by omega⟩
      rw [noteE_step, noteE_step, if_pos c, if_pos c]
      exact noteE_fuel d (p + 1) f g (by omega) (by omega) (by omega)
    · have a : ∀ f : Nat, noteE T n f p = p := fun f => by
        cases f with
        | zero => rfl
        | succ f => rw [noteE_step, if_neg c]
      rw [a f, a g]
theorem noteE_end : ∀ (f p : Nat), n - p ≤ f → p ≤ n → noteE T n f p = n ∨ (noteE T n f p < n ∧ T (noteE T n f p) = 10)
  | 0, p, hf, hp => Or.inl (by show p = n; omega)
  | f + 1, p, hf, hp => by
    rw [noteE_step]
    by_cases c : p < n ∧ ¬ T p = 10
    · rw [if_pos c]; exact noteE_end f (p + 1) (by omega) (by omega)
    · rw [if_neg c]
      by_cases d : p < n
      · exact Or.inr ⟨d, Classical.byContradiction (fun h => c ⟨d, h⟩)⟩
      · exact Or.inl (by omega)
/-- a note of the house ends where that of the reference does -/
theorem cSk_note (h : sameT T R n) : ∀ (f i g : Nat), n - i < f → i ≤ n → n - i ≤ g → ∃ f' : Nat, n - noteE T n g i ≤ f' ∧ cSk R n f true i = (if noteE T n g i < n then cSk R n f' false (noteE T n g i + 1) else n)
  | 0, i, g, hf, hi, hg => absurd hf (by omega)
  | f + 1, i, g, hf, hi, hg => by
    rw [cSk_step]
    by_cases c : i < n
    · rw [if_pos c]
      obtain ⟨g, rfl⟩ : ∃ m, g = m + 1 := ⟨g - 1, by omega⟩
      have e10 := same_eq h c (k := 10) (by decide) (by decide)
      rw [noteE_step]
      show ∃ f', _ ∧ (if decide (¬ R i = 10) = true ∨ cls (R i) = 31 then cSk R n f (decide (¬ R i = 10)) (i + 1) else i) = _
      by_cases d : R i = 10
      · rw [if_neg (fun q => q.2 (e10.mpr d))]
        have hcl : cls (R i) = 31 := (cls_blank (h.2.1 i (by omega))).mpr (Or.inr (Or.inl d))
        rw [if_pos (Or.inr hcl), decide_eq_false (fun q => q d)]
        exact ⟨f, by omega, by rw [if_pos c]⟩
      · rw [if_pos ⟨c, fun q => d (e10.mp q)⟩, decide_eq_true d, if_pos (Or.inl rfl)]
        exact cSk_note h f (i + 1) g (by omega) (by omega) (by omega)
    · rw [if_neg c]
      have a : noteE T n g i = i := by
        cases g with
        | zero => rfl
        | succ g => rw [noteE_step, if_neg (by omega)]
      rw [a]
      exact ⟨0, by omega, by rw [if_neg c]; omega⟩
theorem skE_step {f p : Nat} : skE T n (f + 1) p = if p < n ∧ isB (T p) then skE T n f (p + 1) else if noteB T n p then skE T n f (noteE T n n p) else p := rfl
theorem skE_n : ∀ f : Nat, skE T n f n = n
  | 0 => rfl
  | f + 1 => by
    rw [skE_step, if_neg (by omega), if_neg (fun q => by have := noteB_lt q; omega)]
theorem skip_same (h : sameT T R n) : ∀ (d i f g : Nat), n - i ≤ d → i ≤ n → n - i < f → n - i < g → cSk R n f false i = skE T n g i
  | 0, i, f, g, hd, hi, hf, hg => by
    obtain rfl : i = n := by omega
    rw [skE_n]
    cases f with
    | zero => rfl
    | succ f => rw [cSk_step, if_neg (by omega)]
  | d + 1, i, f, g, hd, hi, hf, hg => by
    obtain ⟨f, rfl⟩ : ∃ m, f = m + 1 := ⟨f - 1, by omega⟩
    obtain ⟨g, rfl⟩ : ∃ m, g = m + 1 := ⟨g - 1, by omega⟩
    by_cases c : i < n
    · rw [cSk_step, if_pos c, skE_step]
      have e45 := same_rB h (i := i) (by omega) (k := 45) (by decide) (by decide)
      have e46 := same_rB h (i := i + 1) (by omega) (k := 45) (by decide) (by decide)
      show (if decide (R i = 45 ∧ R (i + 1) = 45) = true ∨ cls (R i) = 31 then cSk R n f (decide (R i = 45 ∧ R (i + 1) = 45)) (i + 1) else i) = _
      by_cases nb : R i = 45 ∧ R (i + 1) = 45
      · have hnb : noteB T n i := ⟨e45.mpr nb.1, e46.mpr nb.2⟩
        have hT45 : T i = 45 := (noteB_lt hnb).2.1
        have hnob : ¬ (i < n ∧ isB (T i)) := fun q => by
          rw [hT45] at q; exact absurd q.2 (by decide)
        rw [if_neg hnob, if_pos hnb, decide_eq_true nb, if_pos (Or.inl rfl)]
        have hstep : noteE T n n i = noteE T n (n - 1) (i + 1) := by
          obtain ⟨m, hm⟩ : ∃ m, n = m + 1 := ⟨n - 1, by omega⟩
          rw [show noteE T n n i = noteE T n (m + 1) i by rw [← hm], noteE_step, if_pos ⟨c, by rw [hT45]; decide⟩, show m = n - 1 by omega]
        obtain ⟨f', hf', e⟩ := cSk_note h f (i + 1) (n - 1) (by omega) (by omega) (by omega)
        rw [e, ← hstep]
        rw [← hstep] at hf'
        have hgt := noteE_gt hnb
        rcases noteE_end n i (by omega) hi (T := T) with q | ⟨q1, q2⟩
        · rw [q, if_neg (by omega), skE_n]
        · rw [if_pos q1]
          obtain ⟨g, rfl⟩ : ∃ m, g = m + 1 := ⟨g - 1, by omega⟩
          rw [skE_step, if_pos ⟨q1, Or.inr (Or.inl q2)⟩]
          exact skip_same h d _ f' g (by omega) (by omega) (by omega) (by omega)
      · have hnb : ¬ noteB T n i := fun q => nb ⟨e45.mp q.1, e46.mp q.2⟩
        rw [decide_eq_false nb]
        by_cases b : cls (R i) = 31
        · rw [if_pos (Or.inr b), if_pos ⟨c, (same_blank h c).mpr b⟩]
          exact skip_same h d (i + 1) f g (by omega) (by omega) (by omega) (by omega)
        · rw [if_neg (fun q => q.elim (fun q => by cases q) b), if_neg (fun q => b ((same_blank h c).mp q.2)), if_neg hnb]
    · obtain rfl : i = n := by omega
      rw [skE_n, cSk_step, if_neg c]
/-- both find the token at one place -/
theorem sk_same (h : sameT T R n) {p : Nat} (hp : p ≤ n) : cSk R n (n + 1) false p = sk T n p := skip_same h n p (n + 1) (n + 1) (by omega) hp (by omega) (by omega)
end SAME
end JnS14
section JnS15
/-! Names and words: the bytes as one number. -/
def kN (f : Nat → Int32) : Nat → Nat
  | 0 => 0
  | m + 1 => kN f m * 256 + (f m).toInt.toNat
abbrev okB (c : Int32) : Prop := 1 ≤ c.toInt ∧ c.toInt ≤ 127
theorem kN_lt (f : Nat → Int32) : ∀ m : Nat, (∀ i, i < m → okB (f i)) → 2 * kN f m < 256 ^ m ∨ m = 0
  | 0, _ => Or.inr rfl
  | m + 1, h => by
    have hm := h m (by omega)
    have := kN_lt f m (fun i hi => h i (by omega))
    refine Or.inl ?_
    show 2 * (kN f m * 256 + (f m).toInt.toNat) < 256 ^ (m + 1)
    rw [Nat.pow_succ]
    rcases this with q | q
    · omega
    · subst q
      show 2 * (0 * 256 + _) < _
      omega
theorem kN_pos (f : Nat → Int32) (m : Nat) (h : okB (f m)) : 0 < kN f (m + 1) := by
  show 0 < kN f m * 256 + (f m).toInt.toNat
  omega
theorem kN_inj (f g : Nat → Int32) : ∀ m m' : Nat, (∀ i, i < m → okB (f i)) → (∀ i, i < m' → okB (g i)) → kN f m = kN g m' → m = m' ∧ ∀ i, i < m → f i = g i
  | 0, 0, _, _, _ => ⟨rfl, fun i hi => absurd hi (by omega)⟩
  | 0, m' + 1, _, hg, e => by
    have := kN_pos g m' (hg m' (by omega))
    have e0 : kN f 0 = 0 := rfl
    omega
  | m + 1, 0, hf, _, e => by
    have := kN_pos f m (hf m (by omega))
    have e0 : kN g 0 = 0 := rfl
    omega
  | m + 1, m' + 1, hf, hg, e => by
    have e : kN f m * 256 + (f m).toInt.toNat = kN g m' * 256 + (g m').toInt.toNat := e
    have a := hf m (by omega)
    have b := hg m' (by omega)
    obtain ⟨h1, h2⟩ := kN_inj f g m m' (fun i hi => hf i (by omega)) (fun i hi => hg i (by omega)) (by omega)
    subst h1
    refine ⟨rfl, fun i hi => ?_⟩
    by_cases c : i = m
    · subst c; rw [i_eq]; omega
    · exact h2 i (by omega)
theorem byte64 {c : Int32} (h : okB c) : c.toInt64.toBitVec.toNat = c.toInt.toNat := by
  have e : c.toInt64.toBitVec.toInt = c.toInt := Int32.toInt_toInt64 c
  rw [BitVec.toInt_eq_toNat_cond] at e
  have hlt := c.toInt64.toBitVec.isLt
  split at e
  · omega
  · omega
theorem keyH_nat (R : Nat → Int32) (a : Nat) : ∀ m : Nat, m ≤ 8 → (∀ i, i < m → okB (R (a + i))) → (keyH R a m).toBitVec.toNat = kN (fun i => R (a + i)) m
  | 0, _, _ => rfl
  | m + 1, hm, h => by
    have ih := keyH_nat R a m (by omega) (fun i hi => h i (by omega))
    have hb := byte64 (h m (by omega))
    have hok := h m (by omega)
    have hlt := kN_lt (fun i => R (a + i)) m (fun i hi => h i (by omega))
    show (if m < 8 then keyH R a m <<< ((8 : Int32).toInt64 &&& 63) ||| (R (a + m)).toInt64 else keyH R a m).toBitVec.toNat = kN (fun i => R (a + i)) m * 256 + (R (a + m)).toInt.toNat
    rw [if_pos (by omega), Int64.toBitVec_or, BitVec.toNat_or, hb]
    have e : (keyH R a m <<< ((8 : Int32).toInt64 &&& 63)).toBitVec = (keyH R a m).toBitVec <<< 8 := by
      rw [show keyH R a m <<< ((8 : Int32).toInt64 &&& 63) = keyH R a m <<< (8 : Int64) from rfl, Int64.toBitVec_shiftLeft]; rfl
    have hp : kN (fun i => R (a + i)) m * 256 < 2 ^ 64 := by
      rcases hlt with q | q
      · have : (256 : Nat) ^ m ≤ 256 ^ 7 := Nat.pow_le_pow_right (by decide) (by omega)
        have e7 : (256 : Nat) ^ 7 = 72057594037927936 := by decide
        omega
      · subst q; show 0 * 256 < _; decide
    rw [e, BitVec.toNat_shiftLeft, ih, Nat.shiftLeft_eq, Nat.mod_eq_of_lt (by omega), show (2 : Nat) ^ 8 = 256 from rfl, ← Nat.shiftLeft_eq _ 8, ← Nat.shiftLeft_add_eq_or_of_lt (by omega), Nat.shiftLeft_eq]
/-- the words' numbers -/
def wdF (w i : Nat) : Int32 := (wdL.getD w []).getD i 0
set_option maxRecDepth 20000 in
theorem wd_ok : ∀ w, w < 53 → (wdL.getD w []).length ≤ 8 ∧ ∀ i, i < (wdL.getD w []).length → okB (wdF w i) := by decide +kernel
set_option maxRecDepth 20000 in
theorem wd_key : ∀ w, w < 53 → (lxW w).toBitVec.toNat = kN (wdF w) (wdL.getD w []).length := by decide +kernel
set_option maxRecDepth 20000 in
theorem wd_ne : ∀ v, v < 53 → ∀ w, w < v → ¬ wdL.getD v [] = wdL.getD w [] := by decide +kernel
section WD
variable {T R : Nat → Int32} {a e : Nat}
/-- the number is a word's just where the bytes are -/
theorem wd_same (hae : a ≤ e) (h8 : e - a ≤ 8) (hok : ∀ i, a ≤ i → i < e → okB (R i)) (hT : ∀ i, a ≤ i → i < e → T i = R i) {w : Nat} (hw : w < 53) : lxW w = keyH R a (e - a) ↔ wdL.getD w [] = seg T a e := by
  have hR : ∀ i, i < e - a → okB (R (a + i)) := fun i hi => hok (a + i) (by omega) (by omega)
  have hk := keyH_nat R a (e - a) h8 hR
  have hl := wd_ok w hw
  rw [← Int64.toBitVec_inj, ← BitVec.toNat_inj, wd_key w hw, hk]
  constructor
  · intro h
    obtain ⟨h1, h2⟩ := kN_inj _ _ _ _ hl.2 hR h
    exact seg_eq h1 (fun i hi => by rw [hT (a + i) (by omega) (by omega)]; exact h2 i (by omega))
  · intro h
    have h1 : (wdL.getD w []).length = e - a := by rw [h, seg_len]
    rw [h1]
    have aux : ∀ m : Nat, m ≤ e - a → kN (wdF w) m = kN (fun i => R (a + i)) m := by
      intro m
      induction m with
      | zero => intro _; rfl
      | succ m ih =>
        intro hm
        show kN (wdF w) m * 256 + (wdF w m).toInt.toNat = kN (fun i => R (a + i)) m * 256 + (R (a + m)).toInt.toNat
        have : wdF w m = R (a + m) := by
          show (wdL.getD w []).getD m 0 = _
          rw [h, seg_at (by omega)]; exact hT (a + m) (by omega) (by omega)
        rw [ih (by omega), this]
    exact aux _ (Nat.le_refl _)
/-- what the words say of both -/
theorem words_same (hae : a ≤ e) (h8 : e - a ≤ 8) (hok : ∀ i, a ≤ i → i < e → okB (R i)) (hT : ∀ i, a ≤ i → i < e → T i = R i) : ∀ (m w : Nat) (kd : Int32), m + w = 53 → wdK lxW (keyH R a (e - a)) m w kd = (if wordF (seg T a e) m w = -1 then kd else 32 + wordF (seg T a e) m w) := by
  intro m
  induction m with
  | zero => intro w kd hm; exact (if_pos rfl).symm
  | succ m ih =>
    intro w kd hm
    have e1 : wdK lxW (keyH R a (e - a)) (m + 1) w kd = wdK lxW (keyH R a (e - a)) m (w + 1) (if lxW w = keyH R a (e - a) then 32 + nI w else kd) := rfl
    have e2 : wordF (seg T a e) (m + 1) w = if wdL.getD w [] = seg T a e then nI w else wordF (seg T a e) m (w + 1) := rfl
    have hs := wd_same hae h8 hok hT (T := T) (w := w) (by omega)
    rw [e1, e2]
    by_cases c : wdL.getD w [] = seg T a e
    · rw [if_pos (hs.mpr c), if_pos c]
      -- no other word is the same
      have no : ∀ (m v : Nat) (kd : Int32), m + v = 53 → w < v → wdK lxW (keyH R a (e - a)) m v kd = kd := by
        intro m
        induction m with
        | zero => intro v kd _ _; rfl
        | succ m ih2 =>
          intro v kd hv hw
          show wdK lxW (keyH R a (e - a)) m (v + 1) (if lxW v = keyH R a (e - a) then 32 + nI v else kd) = kd
          have hne : ¬ lxW v = keyH R a (e - a) := fun q => by
            have q := (wd_same hae h8 hok hT (T := T) (w := v) (by omega)).mp q
            exact wd_ne v (by omega) w hw (q.trans c.symm)
          rw [if_neg hne]
          exact ih2 (v + 1) kd (by omega) (by omega)
      rw [no m (w + 1) _ (by omega) (by omega), if_neg (fun q => by
        have hw : w < 53 := by omega
        rw [i_eq, n_int (by omega)] at q
        have : (-1 : Int32).toInt = -1 := rfl
        omega)]
    · rw [if_neg (fun q => c (hs.mp q)), if_neg c]
      exact ih (w + 1) kd (by omega)
end WD
end JnS15
section JnS16
/-! Both sides read the same tokens. -/
theorem lxC_letter : ∀ c : Nat, c < 128 → (lxC.getD c 0 = 2 ↔ (65 ≤ c ∧ c ≤ 90) ∨ (97 ≤ c ∧ c ≤ 122)) := by decide +kernel
theorem lxC_digit : ∀ c : Nat, c < 128 → (lxC.getD c 0 = 3 ↔ (48 ≤ c ∧ c ≤ 57)) := by decide +kernel
theorem lxC_quote : ∀ c : Nat, c < 128 → (lxC.getD c 0 = 4 ↔ c = 34) := by decide +kernel
theorem lxC_under : ∀ c : Nat, c < 128 → (lxC.getD c 0 = 30 ↔ c = 95) := by decide +kernel
/-- the kind of a byte, by its number -/
theorem cls_nat {c : Int32} (hf : fits .byte (.int c) = true) : (c.toInt < 0 ∧ cls c = 0) ∨ (0 ≤ c.toInt ∧ c.toInt ≤ 127 ∧ cls c = lxC.getD c.toInt.toNat 0) := by
  have hb := fits_byte' hf
  unfold cls
  by_cases h0 : c < 0
  · rw [if_pos h0]; rw [i_lt, i_c0] at h0; exact Or.inl ⟨h0, rfl⟩
  · rw [if_neg h0]; rw [i_lt, i_c0] at h0
    have hc := i_clamp (x := c) (by omega)
    refine Or.inr ⟨by omega, by omega, ?_⟩
    rw [show c.toNatClampNeg = c.toInt.toNat by omega]
section TS
variable {T R : Nat → Int32} {n : Nat}
theorem t_int (h : sameT T R n) {i : Nat} (hi : i < n) : (T i).toInt = if 0 ≤ (R i).toInt then (R i).toInt else (R i).toInt + 256 := by
  rw [h.1 i hi]; exact u8_int (h.2.1 i (by omega))
theorem isL_int {c : Int32} : isL c ↔ ((65 ≤ c.toInt ∧ c.toInt ≤ 90) ∨ (97 ≤ c.toInt ∧ c.toInt ≤ 122)) := by
  unfold isL; rw [i_le, i_le, i_le, i_le]; exact Iff.rfl
theorem isD_int {c : Int32} : isD c ↔ (48 ≤ c.toInt ∧ c.toInt ≤ 57) := by
  unfold isD; rw [i_le, i_le]; exact Iff.rfl
theorem same_kind (h : sameT T R n) {i : Nat} (hi : i < n) : (isL (T i) ↔ cls (R i) = 2) ∧ (isD (T i) ↔ cls (R i) = 3) ∧ (T i = 34 ↔ cls (R i) = 4) ∧ (T i = 95 ↔ cls (R i) = 30) := by
  have hf := h.2.1 i (by omega)
  have hb := fits_byte' hf
  have ht := t_int h hi
  rw [isL_int, isD_int, i_eq (x := T i) (y := 34), i_eq (x := T i) (y := 95), show (34 : Int32).toInt = 34 from rfl, show (95 : Int32).toInt = 95 from rfl]
  rcases cls_nat hf with ⟨h0, hc⟩ | ⟨h0, h1, hc⟩
  · rw [if_neg (by omega)] at ht
    rw [hc]
    have n2 : ¬ (0 : Int32) = 2 := by decide
    have n3 : ¬ (0 : Int32) = 3 := by decide
    have n4 : ¬ (0 : Int32) = 4 := by decide
    have n30 : ¬ (0 : Int32) = 30 := by decide
    exact ⟨⟨fun q => by omega, fun q => absurd q n2⟩, ⟨fun q => by omega, fun q => absurd q n3⟩, ⟨fun q => by omega, fun q => absurd q n4⟩, ⟨fun q => by omega, fun q => absurd q n30⟩⟩
  · rw [if_pos (by omega)] at ht
    rw [hc, lxC_letter _ (by omega), lxC_digit _ (by omega), lxC_quote _ (by omega), lxC_under _ (by omega), ht]
    omega
theorem same_part (h : sameT T R n) {i : Nat} (hi : i < n) : isN (rB T n i) ↔ isPart (cls (R i)) := by
  rw [rB_in hi]
  obtain ⟨a, b, c, d⟩ := same_kind h hi
  unfold isN isPart
  rw [a, b, d]
theorem name_same (h : sameT T R n) : ∀ (f i : Nat), nmE R n f i = nameE T n f i
  | 0, i => rfl
  | f + 1, i => by
    rw [nmE_step, nameE_step]
    by_cases c : i < n
    · by_cases d : isPart (cls (R i))
      · rw [if_pos ⟨c, d⟩, if_pos ((same_part h c).mpr d)]; exact name_same h f (i + 1)
      · rw [if_neg (fun q => d q.2), if_neg (fun q => d ((same_part h c).mp q))]
    · rw [if_neg (fun q => c q.1), if_neg (fun q => c (isN_lt q))]
theorem dig_same (h : sameT T R n) : ∀ (f i : Nat), dgE R n f i = digE T n f i
  | 0, i => rfl
  | f + 1, i => by
    rw [dgE_step, digE_step]
    by_cases c : i < n
    · have e : (¬ R i < 48 ∧ ¬ 57 < R i) ↔ isD (rB T n i) := by
        rw [rB_in c, isD_int, t_int h c, i_lt, i_lt, show (48 : Int32).toInt = 48 from rfl, show (57 : Int32).toInt = 57 from rfl]
        have hb := fits_byte' (h.2.1 i (by omega))
        by_cases g : 0 ≤ (R i).toInt
        · rw [if_pos g]; omega
        · rw [if_neg g]; omega
      by_cases d : isD (rB T n i)
      · rw [if_pos ⟨c, e.mpr d⟩, if_pos d]; exact dig_same h f (i + 1)
      · rw [if_neg (fun q => d (e.mp q.2)), if_neg d]
    · rw [if_neg (fun q => c q.1), if_neg (fun q => c (isD_lt q))]
theorem str_same (h : sameT T R n) : ∀ (f i : Nat), sgE R n f i = strE T n f i
  | 0, i => rfl
  | f + 1, i => by
    rw [sgE_step, strE_step]
    by_cases c : i < n
    · have e1 := same_eq h c (k := 34) (by decide) (by decide)
      have e2 : (R i &&& 255 < 32) ↔ T i ≤ 31 := by
        rw [← h.1 i c, i_lt, i_le, show (32 : Int32).toInt = 32 from rfl, show (31 : Int32).toInt = 31 from rfl]; omega
      by_cases d : ¬ T i = 34 ∧ ¬ T i ≤ 31
      · rw [if_pos ⟨c, fun q => d.2 (e2.mp q), fun q => d.1 (e1.mpr q)⟩, if_pos ⟨c, d⟩]; exact str_same h f (i + 1)
      · rw [if_neg (fun q => d ⟨fun g => q.2.2 (e1.mp g), fun g => q.2.1 (e2.mpr g)⟩), if_neg (fun q => d q.2)]
    · rw [if_neg (fun q => c q.1), if_neg (fun q => c q.1)]
end TS
end JnS16
section JnS17
/-- the signs of the reference, as kinds of the house -/
def sgC : List Int32 := [0, 5, 6, 7, 8, 9, 10, 11, 12, 13, 14, 15, 16, 17, 18, 19, 28, 20, 21, 22, 23, 24, 25, 26, 27]
/-- one kind of token on both sides -/
def kRel (k km wm : Int32) : Prop := (k = 1 ∧ km = 0) ∨ (k = 2 ∧ km = 1) ∨ (k = 3 ∧ km = 2) ∨ (k = 4 ∧ km = 3) ∨ (km = 4 ∧ ∃ v : Nat, 1 ≤ v ∧ v ≤ 24 ∧ wm = nI v ∧ k = sgC.getD v 0) ∨ (km = 5 ∧ ∃ v : Nat, v < 53 ∧ wm = nI v ∧ k = 32 + nI v)
def signB (c : Int32) (b61 b42 b46 : Bool) : Int32 := if c = 35 then 23 else if c = 40 then 6 else if c = 41 then 7 else if c = 42 then (if b42 = true then 5 else 4) else if c = 43 then 2 else if c = 44 then 12 else if c = 45 then 3 else if c = 46 then (if b46 = true then 16 else 0) else if c = 47 then (if b61 = true then 18 else 24) else if c = 58 then (if b61 = true then 1 else 14) else if c = 59 then 13 else if c = 60 then (if b61 = true then 20 else 19) else if c = 61 then 17 else if c = 62 then (if b61 = true then 22 else 21) else if c = 91 then 10 else if c = 93 then 11 else if c = 123 then 8 else if c = 124 then 15 else if c = 125 then 9 else 0
def sgB (kd : Int32) (b61 b42 b46 : Bool) : Int32 × Nat :=
  if b61 = true ∧ (kd = 27 ∨ kd = 22 ∨ kd = 24 ∨ kd = 18) then (if kd = 18 then 5 else if kd = 27 then 21 else kd + 1, 1)
  else if (kd = 8 ∧ b42 = true) ∨ (kd = 29 ∧ b46 = true) then (if kd = 8 then 9 else 28, 1)
  else (kd, 0)
theorem signF_B (c d : Int32) : signF c d = signB c (decide (d = 61)) (decide (d = 42)) (decide (d = 46)) := by
  simp only [signF, signB, decide_eq_true_eq]
theorem sgK_B (kd nx : Int32) : sgK kd nx = sgB kd (decide (nx = 61)) (decide (nx = 42)) (decide (nx = 46)) := by
  simp only [sgK, sgB, decide_eq_true_eq]
theorem signF_hi {c d : Int32} (h : 128 ≤ c.toInt) : signF c d = 0 := by
  have ne : ∀ k : Int32, k.toInt < 128 → ¬ c = k := fun k hk e => by rw [e] at h; omega
  unfold signF
  rw [if_neg (ne 35 (by decide)), if_neg (ne 40 (by decide)), if_neg (ne 41 (by decide)), if_neg (ne 42 (by decide)), if_neg (ne 43 (by decide)), if_neg (ne 44 (by decide)), if_neg (ne 45 (by decide)), if_neg (ne 46 (by decide)), if_neg (ne 47 (by decide)), if_neg (ne 58 (by decide)), if_neg (ne 59 (by decide)), if_neg (ne 60 (by decide)), if_neg (ne 61 (by decide)), if_neg (ne 62 (by decide)), if_neg (ne 91 (by decide)), if_neg (ne 93 (by decide)), if_neg (ne 123 (by decide)), if_neg (ne 124 (by decide)), if_neg (ne 125 (by decide))]
abbrev sgOK (sg : Int32) (gB : Int32 × Nat) : Prop := (badK gB.1 ↔ sg = 0) ∧ (¬ sg = 0 → (1 ≤ sg.toNatClampNeg ∧ sg.toNatClampNeg ≤ 24 ∧ sg = nI sg.toNatClampNeg ∧ gB.1 = sgC.getD sg.toNatClampNeg 0 ∧ 1 + gB.2 = (if sg = 1 ∨ sg = 5 ∨ sg = 16 ∨ sg = 18 ∨ sg = 20 ∨ sg = 22 then 2 else 1)))
def sgOKb (sg : Int32) (gB : Int32 × Nat) : Bool := decide (badK gB.1 ↔ sg = 0) && (decide (sg = 0) || decide (1 ≤ sg.toNatClampNeg ∧ sg.toNatClampNeg ≤ 24 ∧ sg = nI sg.toNatClampNeg ∧ gB.1 = sgC.getD sg.toNatClampNeg 0 ∧ 1 + gB.2 = (if sg = 1 ∨ sg = 5 ∨ sg = 16 ∨ sg = 18 ∨ sg = 20 ∨ sg = 22 then 2 else 1)))
theorem sgOKb_ok {sg : Int32} {gB : Int32 × Nat} (h : sgOKb sg gB = true) : sgOK sg gB := by
  unfold sgOKb at h
  rw [Bool.and_eq_true] at h
  refine ⟨of_decide_eq_true h.1, fun g => ?_⟩
  rcases (Bool.or_eq_true _ _).mp h.2 with q | q
  · exact absurd (of_decide_eq_true q) g
  · exact of_decide_eq_true q
def sgCk (c t : Nat) : Bool := decide (lxC.getD c 0 = 2 ∨ lxC.getD c 0 = 3 ∨ lxC.getD c 0 = 4 ∨ lxC.getD c 0 = 31) || sgOKb (signB (nI c) (t.testBit 0) (t.testBit 1) (t.testBit 2)) (sgB (lxC.getD c 0) (t.testBit 0) (t.testBit 1) (t.testBit 2))
set_option maxRecDepth 20000 in
theorem sign_ck : ∀ c : Nat, c < 128 → ∀ t : Nat, t < 8 → sgCk c t = true := by decide +kernel
theorem sign_all0 (c : Nat) (hc : c < 128) (t : Nat) (ht : t < 8) (h : ¬ (lxC.getD c 0 = 2 ∨ lxC.getD c 0 = 3 ∨ lxC.getD c 0 = 4 ∨ lxC.getD c 0 = 31)) : sgOK (signB (nI c) (t.testBit 0) (t.testBit 1) (t.testBit 2)) (sgB (lxC.getD c 0) (t.testBit 0) (t.testBit 1) (t.testBit 2)) := by
  rcases (Bool.or_eq_true _ _).mp (sign_ck c hc t ht) with q | q
  · exact absurd (of_decide_eq_true q) h
  · exact sgOKb_ok q
theorem sign_all {c : Nat} (hc : c < 128) (h : ¬ (lxC.getD c 0 = 2 ∨ lxC.getD c 0 = 3 ∨ lxC.getD c 0 = 4 ∨ lxC.getD c 0 = 31)) (b61 b42 b46 : Bool) : sgOK (signB (nI c) b61 b42 b46) (sgB (lxC.getD c 0) b61 b42 b46) := by
  cases b61 <;> cases b42 <;> cases b46
  · exact sign_all0 c hc 0 (by decide) h
  · exact sign_all0 c hc 4 (by decide) h
  · exact sign_all0 c hc 2 (by decide) h
  · exact sign_all0 c hc 6 (by decide) h
  · exact sign_all0 c hc 1 (by decide) h
  · exact sign_all0 c hc 5 (by decide) h
  · exact sign_all0 c hc 3 (by decide) h
  · exact sign_all0 c hc 7 (by decide) h
theorem nb1 : ¬ badK 1 := by decide
theorem nb2 : ¬ badK 2 := by decide
theorem nb3 : ¬ badK 3 := by decide
theorem nb4 : ¬ badK 4 := by decide
theorem z06 : ¬ (0 : Int32) = 6 := by decide
theorem z16 : ¬ (1 : Int32) = 6 := by decide
theorem z26 : ¬ (2 : Int32) = 6 := by decide
theorem z56 : ¬ (5 : Int32) = 6 := by decide
theorem z36 : ¬ (3 : Int32) = 6 := by decide
theorem wordF_val (s : List Int32) : ∀ (m w : Nat), m + w = 53 → wordF s m w = -1 ∨ ∃ v : Nat, v < 53 ∧ wordF s m w = nI v ∧ wdL.getD v [] = s
  | 0, w, _ => Or.inl rfl
  | m + 1, w, h => by
    show (if wdL.getD w [] = s then nI w else wordF s m (w + 1)) = -1 ∨ ∃ v : Nat, v < 53 ∧ (if wdL.getD w [] = s then nI w else wordF s m (w + 1)) = nI v ∧ _
    by_cases c : wdL.getD w [] = s
    · rw [if_pos c]; exact Or.inr ⟨w, by omega, rfl, c⟩
    · rw [if_neg c]; exact wordF_val s m (w + 1) (by omega)
section TK
variable {T R : Nat → Int32} {n q : Nat}
/-- both sides read one token: both find a fault, or its end and its kind are the same -/
theorem tok_same (h : sameT T R n) (hq : q ≤ n) (hnb : q < n → ¬ cls (R q) = 31) (w0 : Int32) (hi lo : Int64) : (badK (tokC lxW hi lo R n q).1 ↔ (tokM w0 T n q).1 = 6) ∧ (¬ badK (tokC lxW hi lo R n q).1 → (tokC lxW hi lo R n q).2.1 = (tokM w0 T n q).2.2 ∧ kRel (tokC lxW hi lo R n q).1 (tokM w0 T n q).1 (tokM w0 T n q).2.1) := by
  unfold tokC tokM
  by_cases c : q = n
  · rw [if_pos (by omega), if_pos c]
    exact ⟨⟨fun g => absurd g nb1, fun g => absurd g z06⟩, fun _ => ⟨rfl, Or.inl ⟨rfl, rfl⟩⟩⟩
  rw [if_neg (by omega), if_neg c]
  have hlt : q < n := by omega
  have hf := h.2.1 q (by omega)
  obtain ⟨kL, kD, kS, kU⟩ := same_kind h hlt
  rw [rB_in hlt]
  by_cases d2 : cls (R q) = 2
  · -- a name
    rw [if_pos d2, if_pos (kL.mpr d2), name_same h (n + 1) q]
    have hle := nameE_le T n (n + 1) q hq
    have hge := nameE_ge T n (n + 1) q
    have hall := nameE_all T n (n + 1) q
    generalize nameE T n (n + 1) q = e at hle hge hall ⊢
    have hok : ∀ i, q ≤ i → i < e → okB (R i) ∧ T i = R i := fun i a b => by
      have hn := hall i a b
      have ht := t_int h (i := i) (by omega)
      have hb := fits_byte' (h.2.1 i (by omega))
      have : 48 ≤ (T i).toInt ∧ (T i).toInt ≤ 122 := by
        rcases hn with g | g | g
        · rw [isL_int] at g; omega
        · rw [isD_int] at g; omega
        · rw [g]; decide
      by_cases g : 0 ≤ (R i).toInt
      · rw [if_pos g] at ht; exact ⟨by omega, by rw [i_eq]; exact ht⟩
      · rw [if_neg g] at ht; omega
    by_cases h8 : e - q ≤ 8
    · rw [if_pos h8, if_pos (by omega : e - q ≤ 16)]
      have hw : wdK lxW (keyH R q (e - q)) 53 0 2 = (if wordI (seg T q e) = -1 then 2 else 32 + wordI (seg T q e)) := words_same (T := T) hge h8 (fun i a b => (hok i a b).1) (fun i a b => (hok i a b).2) 53 0 2 rfl
      rw [hw]
      clear hw
      rcases wordF_val (seg T q e) 53 0 rfl with g | ⟨v, hv, g, _⟩
      · have g : wordI (seg T q e) = -1 := g
        rw [if_pos g, if_pos g]
        exact ⟨⟨fun z => absurd z nb2, fun z => absurd z z16⟩, fun _ => ⟨rfl, Or.inr (Or.inl ⟨rfl, rfl⟩)⟩⟩
      · have g : wordI (seg T q e) = nI v := g
        have gn : ¬ wordI (seg T q e) = -1 := fun z => by
          rw [g, i_eq, n_int (by omega)] at z
          have : (-1 : Int32).toInt = -1 := rfl
          omega
        rw [if_neg gn, if_neg gn, g]
        have h32 : (32 + nI v).toInt = 32 + v := by
          rw [i_add] <;> rw [n_int (by omega), show (32 : Int32).toInt = 32 from rfl] <;> omega
        refine ⟨⟨fun z => ?_, fun z => absurd z z56⟩, fun _ => ⟨rfl, Or.inr (Or.inr (Or.inr (Or.inr (Or.inr ⟨rfl, v, hv, rfl, rfl⟩))))⟩⟩
        exfalso
        rcases z with z | z | z
        · rw [i_eq, h32] at z; have : (0 : Int32).toInt = 0 := rfl; omega
        · rw [i_eq, h32] at z; have : (29 : Int32).toInt = 29 := rfl; omega
        · rw [i_eq, h32] at z; have : (30 : Int32).toInt = 30 := rfl; omega
    · rw [if_neg h8]
      by_cases h16 : e - q ≤ 16
      · rw [if_pos h16, if_pos h16]
        have g : wordI (seg T q e) = -1 := by
          rcases wordF_val (seg T q e) 53 0 rfl with g | ⟨v, hv, _, g⟩
          · exact g
          · have := (wd_ok v hv).1
            rw [g, seg_len] at this
            omega
        rw [if_pos g]
        exact ⟨⟨fun z => absurd z nb2, fun z => absurd z z16⟩, fun _ => ⟨rfl, Or.inr (Or.inl ⟨rfl, rfl⟩)⟩⟩
      · rw [if_neg h16, if_neg h16]
        exact ⟨⟨fun _ => rfl, fun _ => Or.inl rfl⟩, fun z => absurd (Or.inl rfl) z⟩
  rw [if_neg d2, if_neg (fun g => d2 (kL.mp g))]
  by_cases d3 : cls (R q) = 3
  · -- a number
    rw [if_pos d3, if_pos (kD.mpr d3), dig_same h (n + 1) q]
    generalize digE T n (n + 1) q = e
    by_cases g : e - q ≤ 60
    · rw [if_pos g, if_pos g]
      exact ⟨⟨fun z => absurd z nb3, fun z => absurd z z26⟩, fun _ => ⟨rfl, Or.inr (Or.inr (Or.inl ⟨rfl, rfl⟩))⟩⟩
    · rw [if_neg g, if_neg g]
      exact ⟨⟨fun _ => rfl, fun _ => Or.inl rfl⟩, fun z => absurd (Or.inl rfl) z⟩
  rw [if_neg d3, if_neg (fun g => d3 (kD.mp g))]
  by_cases d4 : cls (R q) = 4
  · -- a string
    rw [if_pos d4, if_pos (kS.mpr d4), str_same h (n + 1) (q + 1)]
    have hle := strE_le T n (n + 1) (q + 1) (by omega)
    generalize strE T n (n + 1) (q + 1) = e at hle ⊢
    have e34 : (e < n ∧ R e = 34) ↔ (e < n ∧ T e = 34) := ⟨fun z => ⟨z.1, (same_eq h z.1 (k := 34) (by decide) (by decide)).mpr z.2⟩, fun z => ⟨z.1, (same_eq h z.1 (k := 34) (by decide) (by decide)).mp z.2⟩⟩
    by_cases g : (e < n ∧ T e = 34) ∧ e - q - 1 ≤ 100
    · rw [if_pos ⟨e34.mpr g.1, g.2⟩, if_pos g, if_pos g.1]
      exact ⟨⟨fun z => absurd z nb4, fun z => absurd z z36⟩, fun _ => ⟨rfl, Or.inr (Or.inr (Or.inr (Or.inl ⟨rfl, rfl⟩)))⟩⟩
    · rw [if_neg (fun z => g ⟨e34.mp z.1, z.2⟩), if_neg g]
      exact ⟨⟨fun _ => rfl, fun _ => Or.inl rfl⟩, fun z => absurd (Or.inl rfl) z⟩
  rw [if_neg d4, if_neg (fun g => d4 (kS.mp g))]
  -- a sign
  rcases cls_nat hf with ⟨h0, hc⟩ | ⟨h0, h1, hc⟩
  · have ht := t_int h hlt
    rw [if_neg (by omega)] at ht
    have hb := fits_byte' hf
    rw [hc, signF_hi (by omega), if_pos rfl]
    have e0 : sgK 0 (R (q + 1)) = (0, 0) := by
      unfold sgK
      rw [if_neg (fun z => absurd z.2 (by decide)), if_neg (fun z => z.elim (fun z => absurd z.1 (by decide)) (fun z => absurd z.1 (by decide)))]
    rw [e0]
    exact ⟨⟨fun _ => rfl, fun _ => Or.inl rfl⟩, fun z => absurd (Or.inl rfl) z⟩
  · have ht := t_int h hlt
    rw [if_pos h0] at ht
    have eT : T q = nI (R q).toInt.toNat := by rw [i_eq, n_int (by omega), ht]; omega
    have b61 := same_rB h (i := q + 1) (by omega) (k := 61) (by decide) (by decide)
    have b42 := same_rB h (i := q + 1) (by omega) (k := 42) (by decide) (by decide)
    have b46 := same_rB h (i := q + 1) (by omega) (k := 46) (by decide) (by decide)
    have hall := sign_all (c := (R q).toInt.toNat) (by omega) (by
      rw [← hc]
      exact fun z => z.elim d2 (fun z => z.elim d3 (fun z => z.elim d4 (hnb hlt)))) (decide (R (q + 1) = 61)) (decide (R (q + 1) = 42)) (decide (R (q + 1) = 46))
    rw [signF_B, sgK_B, eT, hc, decide_eq_decide.mpr b61, decide_eq_decide.mpr b42, decide_eq_decide.mpr b46]
    have key : ∀ (sg : Int32) (gB : Int32 × Nat), sgOK sg gB → (badK gB.1 ↔ (if sg = 0 then (6 : Int32) else 4) = 6) ∧ (¬ badK gB.1 → q + 1 + gB.2 = q + (if sg = 1 ∨ sg = 5 ∨ sg = 16 ∨ sg = 18 ∨ sg = 20 ∨ sg = 22 then 2 else 1) ∧ kRel gB.1 (if sg = 0 then (6 : Int32) else 4) sg) := by
      intro sg gB hall
      by_cases g : sg = 0
      · rw [if_pos g]
        exact ⟨⟨fun _ => rfl, fun _ => hall.1.mpr g⟩, fun z => absurd (hall.1.mpr g) z⟩
      · rw [if_neg g]
        obtain ⟨v1, v2, v3, v4, v5⟩ := hall.2 g
        refine ⟨⟨fun z => absurd (hall.1.mp z) g, fun z => absurd z (by decide)⟩, fun _ => ⟨?_, Or.inr (Or.inr (Or.inr (Or.inr (Or.inl ⟨rfl, _, v1, v2, v3, v4⟩))))⟩⟩
        rw [← v5]; omega
    exact key _ _ hall
end TK
end JnS17
section JnS18
theorem skE_not (T : Nat → Int32) (n : Nat) : ∀ f p : Nat, n - p < f → p ≤ n → skE T n f p < n → ¬ isB (T (skE T n f p))
  | 0, p, h, _, _ => absurd h (by omega)
  | f + 1, p, h, hp, hl => by
    rw [skE_step] at hl ⊢
    by_cases c : p < n ∧ isB (T p)
    · rw [if_pos c] at hl ⊢; exact skE_not T n f (p + 1) (by omega) (by omega) hl
    · rw [if_neg c] at hl ⊢
      by_cases d : noteB T n p
      · rw [if_pos d] at hl ⊢
        have := noteE_gt d
        have := noteE_le T n n p hp
        exact skE_not T n f _ (by omega) (by omega) hl
      · rw [if_neg d] at hl ⊢; exact fun q => c ⟨hl, q⟩
/-! The bytes that feed brings are the same. -/
theorem b255 : ∀ i : Nat, i < 32 → (255#32).getLsbD i = decide (i < 8) := by decide
theorem byte_and (y : Int32) : y.toInt8.toInt32 &&& 255 = y &&& 255 := by
  apply Int32.toBitVec_inj.mp
  rw [Int32.toBitVec_and, Int32.toBitVec_and]
  rw [Int8.toBitVec_toInt32, Int32.toBitVec_toInt8]
  show (BitVec.signExtend 32 (BitVec.signExtend 8 y.toBitVec)) &&& 255#32 = y.toBitVec &&& 255#32
  apply BitVec.eq_of_getLsbD_eq
  intro i hi
  rw [BitVec.getLsbD_and, BitVec.getLsbD_and, b255 i hi]
  by_cases c : i < 8
  · rw [decide_eq_true c, Bool.and_true, Bool.and_true, BitVec.getLsbD_signExtend, BitVec.getLsbD_signExtend]
    simp [c, hi]
  · rw [decide_eq_false c, Bool.and_false, Bool.and_false]
theorem shift_and (x : Int32) (s : Nat) (hs : s ≤ 24) : (BitVec.sshiftRight x.toBitVec s) &&& 255#32 = (x.toBitVec >>> s) &&& 255#32 := by
  apply BitVec.eq_of_getLsbD_eq
  intro i hi
  rw [BitVec.getLsbD_and, BitVec.getLsbD_and, b255 i hi]
  by_cases c : i < 8
  · rw [decide_eq_true c, Bool.and_true, Bool.and_true, BitVec.getLsbD_sshiftRight, BitVec.getLsbD_ushiftRight]
    have h1 : ¬ 32 ≤ i := by omega
    have h2 : s + i < 32 := by omega
    simp [h1, h2]
  · rw [decide_eq_false c, Bool.and_false, Bool.and_false]
theorem cByte_u (x : Int32) {s : Nat} (hs : s ≤ 24) : cByte x (nI s) &&& 255 = (x.toUInt32 >>> ((nI s).toUInt32 &&& Int32.toUInt32 31)).toInt32 &&& 255 := by
  have e1 : cByte x (nI s) = ((x >>> (nI s &&& 31)).toInt8.toInt32).toInt8.toInt32 := rfl
  rw [e1, byte_and, byte_and]
  apply Int32.toBitVec_inj.mp
  rw [Int32.toBitVec_and, Int32.toBitVec_and]
  have all : ∀ s : Nat, s < 25 → ((nI s &&& 31).toBitVec.smod 32).toNat = s ∧ (((nI s).toUInt32 &&& Int32.toUInt32 31).toBitVec.toNat % 32) = s := by decide +kernel
  have ha := all s (by omega)
  have l : (x >>> (nI s &&& 31)).toBitVec = BitVec.sshiftRight x.toBitVec s := by
    rw [Int32.toBitVec_shiftRight, BitVec.sshiftRight_eq', ha.1]
  have r : (x.toUInt32 >>> ((nI s).toUInt32 &&& Int32.toUInt32 31)).toInt32.toBitVec = x.toBitVec >>> s := by
    show (x.toUInt32 >>> ((nI s).toUInt32 &&& Int32.toUInt32 31)).toBitVec = _
    rw [UInt32.toBitVec_shiftRight]
    show x.toBitVec >>> (((nI s).toUInt32 &&& Int32.toUInt32 31).toBitVec % 32) = _
    rw [BitVec.ushiftRight_eq', show (((nI s).toUInt32 &&& Int32.toUInt32 31).toBitVec % 32).toNat = s from by rw [BitVec.toNat_umod]; exact ha.2]
  rw [l, r]
  exact shift_and x s hs
end JnS18
section JnS19
/-! One tape on both sides. -/
def tRel (σ : CS) (τ : MS) : Prop := σ.1 3701 = τ.1 4 ∧ ∀ i : Nat, (i : Int) < (σ.1 3701).toInt → τ.2.2 3 i = σ.2.2.1 38 i &&& 255
theorem mTape_old (τ : MS) (L : Nat → Int32) (h0 : 0 ≤ (τ.1 4).toInt) : ∀ m : Nat, (τ.1 4).toInt + m ≤ 2147483647 → ∀ i : Nat, (i : Int) < (τ.1 4).toInt → (mTape τ L m).2.2 3 i = τ.2.2 3 i
  | 0, _, i, _ => rfl
  | m + 1, hm, i, hi => by
    have hl := mTape_len τ L h0 m (by omega)
    have hc := i_clamp (x := (mTape τ L m).1 4) (by omega)
    show updG (mTape τ L m).2.2 3 (upd ((mTape τ L m).2.2 3) ((mTape τ L m).1 4).toNatClampNeg (by_ (wd L m) (nI m))) 3 i = _
    rw [updG_same, upd_other (by omega)]
    exact mTape_old τ L h0 m (by omega) i hi
theorem mTape_new (τ : MS) (L : Nat → Int32) (h0 : 0 ≤ (τ.1 4).toInt) : ∀ m : Nat, (τ.1 4).toInt + m ≤ 2147483647 → ∀ j : Nat, j < m → (mTape τ L m).2.2 3 ((τ.1 4).toNatClampNeg + j) = by_ (wd L j) (nI j)
  | 0, _, j, h => absurd h (by omega)
  | m + 1, hm, j, hj => by
    have hl := mTape_len τ L h0 m (by omega)
    have hc := i_clamp (x := (mTape τ L m).1 4) (by omega)
    have hc0 := i_clamp h0
    show updG (mTape τ L m).2.2 3 (upd ((mTape τ L m).2.2 3) ((mTape τ L m).1 4).toNatClampNeg (by_ (wd L m) (nI m))) 3 ((τ.1 4).toNatClampNeg + j) = _
    rw [updG_same]
    by_cases e : j = m
    · subst e
      rw [show (τ.1 4).toNatClampNeg + j = ((mTape τ L j).1 4).toNatClampNeg by omega, upd_same]
    · rw [upd_other (by omega)]
      exact mTape_new τ L h0 m (by omega) j (by omega)
/-- what feed leaves of the other fields and rows of the reference -/
theorem mTape_rest (τ : MS) (L : Nat → Int32) : ∀ m : Nat, (mTape τ L m).2.1 = τ.2.1 ∧ (∀ j, j ≠ 4 → (mTape τ L m).1 j = τ.1 j) ∧ (∀ j, j ≠ 3 → (mTape τ L m).2.2 j = τ.2.2 j)
  | 0 => ⟨rfl, fun _ _ => rfl, fun _ _ => rfl⟩
  | m + 1 => by
    obtain ⟨a, b, c⟩ := mTape_rest τ L m
    refine ⟨a, fun j hj => ?_, fun j hj => ?_⟩
    · show upd (mTape τ L m).1 4 _ j = _
      rw [upd_other hj]; exact b j hj
    · show updG (mTape τ L m).2.2 3 _ j = _
      rw [updG_other hj]; exact c j hj
theorem sh_all : ∀ j : Nat, j < 20 → (24 - (nI j - nI j / 4 * 4) * 8 : Int32) = nI (24 - 8 * (j % 4)) ∧ (24 - 8 * nI (j % 4) : Int32) = nI (24 - 8 * (j % 4)) := by decide +kernel
theorem fed_same (L : LV) (M : Nat → Int32) (hL : ∀ k, 1 ≤ k → k ≤ 5 → M k = L.1 k) {j : Nat} (hj : j < 20) : by_ (wd M j) (nI j) = cFed L j &&& 255 := by
  unfold by_ wd cFed
  rw [(sh_all j hj).1, (sh_all j hj).2, hL (1 + j / 4) (by omega) (by omega), cByte_u _ (by omega)]
/-- feed keeps the tape one -/
theorem feed_same {σ : CS} {τ : MS} {L : LV} {M : Nat → Int32} {r : RS} (hok : tOK σ) (h : tRel σ τ) (hL : ∀ k, 1 ≤ k → k ≤ 5 → M k = L.1 k) (h20 : (σ.1 3701).toInt + 20 ≤ 32768) (hr : tGrew σ 20 (cFed L) r) : tRel r.2.1 (mTape (upd τ.1 2 0, τ.2.1, τ.2.2) M 20) ∧ tOK r.2.1 := by
  obtain ⟨row, n, hst, hrow, hnew, hfit, a1, a2, a3, hc, hs⟩ := hr
  have h0 := hok.1
  have k20 : (20 : Int32).toInt = 20 := rfl
  have e20 : nI 20 = 20 := rfl
  have hli : (σ.1 3701 + nI 20).toInt = (σ.1 3701).toInt + 20 := by rw [e20, i_add] <;> rw [k20] <;> omega
  have hl : r.2.1.1 3701 = σ.1 3701 + nI 20 := by rw [hst]; exact tC_len
  have hrw : r.2.1.2.2.1 38 = row := by rw [hst]; exact tC_row
  have hnn : sN r.2.1 38 = n := by rw [hst]; exact tC_n
  have t4 : ((upd τ.1 2 0, τ.2.1, τ.2.2) : MS).1 4 = σ.1 3701 := by
    show upd τ.1 2 0 4 = _
    rw [upd_other (by decide)]; exact h.1.symm
  have hT0 : 0 ≤ (((upd τ.1 2 0, τ.2.1, τ.2.2) : MS).1 4).toInt := by rw [t4]; exact h0
  have hlen := mTape_len (upd τ.1 2 0, τ.2.1, τ.2.2) M hT0 20 (by rw [t4]; show _ + ((20 : Nat) : Int) ≤ _; omega)
  have hold := mTape_old (upd τ.1 2 0, τ.2.1, τ.2.2) M hT0 20 (by rw [t4]; show _ + ((20 : Nat) : Int) ≤ _; omega)
  have hnw := mTape_new (upd τ.1 2 0, τ.2.1, τ.2.2) M hT0 20 (by rw [t4]; show _ + ((20 : Nat) : Int) ≤ _; omega)
  rw [t4] at hlen hold hnw
  have hcl := i_clamp h0
  refine ⟨⟨?_, fun i hi => ?_⟩, ?_⟩
  · rw [hl, i_eq, hli, hlen]; rfl
  · rw [hl, hli] at hi
    rw [hrw]
    by_cases c : (i : Int) < (σ.1 3701).toInt
    · rw [hold i c, hrow i c]
      exact h.2 i c
    · obtain ⟨j, rfl⟩ : ∃ j, i = (σ.1 3701).toNatClampNeg + j := ⟨i - (σ.1 3701).toNatClampNeg, by omega⟩
      rw [hnw j (by omega), hnew j (by omega)]
      exact fed_same L M hL (by omega)
  · unfold tOK
    rw [hl, hli, hnn, hrw]
    exact ⟨by omega, by have a3 : _ + ((20 : Nat) : Int) ≤ _ := a3; omega, by omega, a2, hfit⟩
/-! end. -/
theorem s_end (L : Nat → Int32) (τ : MS) : Tm (fun k => x_end k 0 L τ) (fun r => r.2 = if ¬ L 1 < 0 ∧ L 1 ≤ τ.1 4 then (upd (upd τ.1 2 0) 4 (L 1), τ.2.1, τ.2.2) else (upd τ.1 2 1, τ.2.1, τ.2.2)) := by
  have bad : ¬ (¬ L 1 < 0 ∧ L 1 ≤ τ.1 4) → Tm (fun k => x_end k 1 L τ) (fun r => r.2 = if ¬ L 1 < 0 ∧ L 1 ≤ τ.1 4 then (upd (upd τ.1 2 0) 4 (L 1), τ.2.1, τ.2.2) else (upd τ.1 2 1, τ.2.1, τ.2.2)) := fun h => by
    rw [if_neg h]
    refine Tm_suc (fun k => by rw [x_end]) ?_
    refine Tm_suc (fun k => by rw [x_end]) ?_
    refine Tm_ob (s_good _ _) (fun r hr => ?_)
    subst hr
    refine Tm_ite (fun _ => ?_) (fun c => absurd (by rw [upd_same, upd_same]; exact (rfl : (0 : Int32) = 0)) c)
    refine Tm_suc (fun k => by rw [x_end]) ?_
    exact Tm_some (by show (upd τ.1 2 (upd (fun _ => 0) 1 (upd L 100 1 100) 1), τ.2.1, τ.2.2) = _; rw [upd_same, upd_same])
  refine Tm_suc (fun k => by rw [x_end]) ?_
  refine Tm_ite (fun c => bad (fun h => h.1 c)) (fun c => ?_)
  refine Tm_ite (fun d => ?_) (fun d => bad (fun h => d h.2))
  rw [if_pos ⟨c, d⟩]
  refine Tm_suc (fun k => by rw [x_end]) ?_
  refine Tm_suc (fun k => by rw [x_end]) ?_
  refine Tm_ob (s_good _ _) (fun r hr => ?_)
  subst hr
  refine Tm_ite (fun c1 => absurd c1 (by rw [upd_same, upd_same]; exact (by decide : ¬ (1 : Int32) = 0))) (fun _ => ?_)
  refine Tm_suc (fun k => by rw [x_end]) ?_
  exact Tm_some (by show (upd (upd τ.1 2 (upd (fun _ => 0) 1 (upd L 100 0 100) 1)) 4 (upd L 100 0 1), τ.2.1, τ.2.2) = _; rw [upd_same, upd_same, upd_other (by decide)])
theorem s_Cend (L : LV) (σ : CS) : Tm (fun k => f_X11_end k 0 L σ) (fun r => r = if ¬ L.1 1 < 0 ∧ L.1 1 ≤ σ.1 3701 then ((0, 0), uI σ 3701 (L.1 1), (0, 0)) else ((1, 0), σ, (1, 6))) := by
  have bad : ¬ (¬ L.1 1 < 0 ∧ L.1 1 ≤ σ.1 3701) → Tm (fun k => f_X11_end k 1 L σ) (fun r => r = if ¬ L.1 1 < 0 ∧ L.1 1 ≤ σ.1 3701 then ((0, 0), uI σ 3701 (L.1 1), (0, 0)) else ((1, 0), σ, (1, 6))) := fun h => by
    rw [if_neg h]
    refine Tm_suc (fun k => by rw [f_X11_end]) ?_
    exact Tm_some rfl
  refine Tm_suc (fun k => by rw [f_X11_end]) ?_
  refine Tm_ite (fun c => bad (fun h => h.1 c)) (fun c => ?_)
  refine Tm_ite (fun d => ?_) (fun d => bad (fun h => d h.2))
  rw [if_pos ⟨c, d⟩]
  refine Tm_suc (fun k => by rw [f_X11_end]) ?_
  exact Tm_some rfl
/-- end keeps the tape one -/
theorem end_same {σ : CS} {τ : MS} {x : Int32} (hok : tOK σ) (h : tRel σ τ) (hx : ¬ x < 0 ∧ x ≤ σ.1 3701) : tRel (uI σ 3701 x) (upd (upd τ.1 2 0) 4 x, τ.2.1, τ.2.2) ∧ tOK (uI σ 3701 x) := by
  have e : (uI σ 3701 x).1 3701 = x := (upd_same : upd σ.1 3701 x 3701 = x)
  rw [i_lt, i_le, i_c0] at hx
  obtain ⟨a, b, c, d, f⟩ := hok
  refine ⟨⟨?_, fun i hi => ?_⟩, ?_⟩
  · rw [e]; exact (upd_same : upd (upd τ.1 2 0) 4 x 4 = x).symm
  · rw [e] at hi; exact h.2 i (by omega)
  · unfold tOK
    rw [e]
    have : sN (uI σ 3701 x) = sN σ := rfl
    rw [this]
    exact ⟨by omega, by omega, by omega, d, f⟩
end JnS19
section JnS20
/-! The tape is read from its first byte on. -/
/-- two zeros stand behind the tape, the token's end is 0 -/
def cRew (σ : CS) (n : Nat) (r : RS) : Prop := r.1 = (0, 0) ∧ ∃ (row : Nat → Int32) (m : Nat), r.2.1 = uI (tC σ (σ.1 3701) row m) 3704 0 ∧ (∀ i, i < n → row i = σ.2.2.1 38 i) ∧ row n = 0 ∧ row (n + 1) = 0 ∧ tFit row m ∧ sN σ 38 ≤ m ∧ m ≤ 32770 ∧ n + 2 ≤ m ∧ r.2.2.1 + tpC m ≤ tpC (sN σ 38) ∧ r.2.2.2 + tpS m ≤ tpS (sN σ 38)
theorem uA_tC {σ : CS} {l : Int32} {row : Nat → Int32} {m i : Nat} {x : Int32} : uA (tC σ l row m) 38 i x = tC σ l (upd row i x) m := by
  show (upd σ.1 3701 l, σ.2.1, updG (updG σ.2.2.1 38 row) 38 (upd (updG σ.2.2.1 38 row 38) i x), σ.2.2.2.1, updN (sN σ) 38 m, σ.2.2.2.2.2) = _
  rw [updG_updG, updG_same]; rfl
theorem nar0 : vp_nar .byte 0 = 0 := rfl
theorem s_rewind {σ : CS} {n : Nat} (hok : tOK σ) (hl : σ.1 3701 = nI n) (hn : n ≤ 32768) (L : LV) : Tm (fun k => f_X2_rewind k 0 L σ) (cRew σ n) := by
  obtain ⟨h0, h1, h2, hS, hf⟩ := hok
  have hi : (σ.1 3701).toInt = n := by rw [hl, n_int (by omega)]
  have e2 : nI n + 2 = nI (n + 2) := (Int32.ofNat_add n 2).symm
  refine Tm_suc (fun k => by rw [f_X2_rewind]) ?_
  rw [hl, e2]
  refine Tm_ox (s_lexWiden _ σ (by rw [lI_same, n_int (by omega)]; omega) (by rw [lI_same, n_int (by omega)]; omega) hS hf) (fun r hr h => absurd (by rw [hr.1]) h) (fun r hr _ => ?_)
  obtain ⟨hr0, row, m, hst, hrow, hfit, hm1, hm2, hm3, hc, hsl⟩ := hr
  rw [lI_same, n_int (by omega)] at hm3
  rw [hst, tC_len, tC_n, hl]
  refine Tm_chk (n_in (by omega) (by omega)) ?_
  rw [n_cl (p := n) (by omega), uA_tC, tC_len, n_add1]
  refine Tm_chk (by rw [tC_n]; exact n_in (by omega) (by omega)) ?_
  rw [n_cl (p := n + 1) (by omega), uA_tC, nar0]
  refine Tm_suc (fun k => by rw [f_X2_rewind]) ?_
  refine Tm_some ⟨rfl, upd (upd row n 0) (n + 1) 0, m, by rw [hl], fun i hin => ?_, ?_, ?_, fun i him => ?_, hm1, hm2, by omega, hc, hsl⟩
  · rw [upd_other (by omega), upd_other (by omega)]; exact hrow i (by omega)
  · rw [upd_other (by omega), upd_same]
  · rw [upd_same]
  · by_cases c : i = n + 1
    · rw [c, upd_same]; rfl
    · rw [upd_other c]
      by_cases d : i = n
      · rw [d, upd_same]; rfl
      · rw [upd_other d]; exact hfit i him
/-- then it can be read -/
theorem rew_cN {σ : CS} {n : Nat} {r : RS} (hl : σ.1 3701 = nI n) (hn : n ≤ 32768) (h : cRew σ n r) : cN r.2.1 n ∧ r.2.1.1 3704 = nI 0 := by
  obtain ⟨_, row, m, hst, hrow, z0, z1, hfit, hm1, hm2, hm3, _⟩ := h
  have e1 : (uI (tC σ (σ.1 3701) row m) 3704 0).1 3701 = σ.1 3701 := by
    show upd (upd σ.1 3701 (σ.1 3701)) 3704 0 3701 = _
    rw [upd_other (by decide), upd_same]
  have e2 : (uI (tC σ (σ.1 3701) row m) 3704 0).2.2.1 38 = row := tC_row (σ := σ) (l := σ.1 3701)
  have e3 : sN (uI (tC σ (σ.1 3701) row m) 3704 0) 38 = m := tC_n (σ := σ) (l := σ.1 3701)
  rw [hst]
  refine ⟨?_, (upd_same : upd (tC σ (σ.1 3701) row m).1 3704 0 3704 = 0)⟩
  unfold cN
  rw [e1, e2, e3]
  exact ⟨hl, hn, hm3, hm2, hfit, z0, z1⟩
/-- both sides have the same bytes before them -/
theorem rew_same {σ : CS} {τ : MS} {n : Nat} {r : RS} (hl : σ.1 3701 = nI n) (hn : n ≤ 32768) (ht : tRel σ τ) (h : cRew σ n r) : sameT (τ.2.2 3) (r.2.1.2.2.1 38) n := by
  obtain ⟨_, row, m, hst, hrow, z0, z1, hfit, hm1, hm2, hm3, _⟩ := h
  have e2 : (uI (tC σ (σ.1 3701) row m) 3704 0).2.2.1 38 = row := tC_row (σ := σ) (l := σ.1 3701)
  rw [hst, e2]
  refine ⟨fun i hi => ?_, fun i hi => hfit i (by omega), z0, z1⟩
  rw [hrow i hi]
  exact ht.2 i (by rw [hl, n_int (by omega)]; omega)
/-! The reference: small methods of its parser. -/
theorem s_isSign (L : Nat → Int32) (σ : MS) : Tm (fun k => x_isSign k 0 L σ) (fun r => r.2 = σ ∧ (¬ r.1 = 0 ↔ (σ.1 6 = 4 ∧ σ.1 7 = L 1))) := by
  have out : ∀ (x : Int32) (M : Nat → Int32), M 100 = x → (x = 0 ∨ x = 1) → (¬ x = 0 ↔ (σ.1 6 = 4 ∧ σ.1 7 = L 1)) → Tm (fun k => x_isSign k 2 M σ) (fun r => r.2 = σ ∧ (¬ r.1 = 0 ↔ (σ.1 6 = 4 ∧ σ.1 7 = L 1))) := fun x M hx h01 h => by
    refine Tm_suc (fun k => by rw [x_isSign]) ?_
    rw [hx]
    refine Tm_chk h01 ?_
    exact Tm_some ⟨rfl, h⟩
  have no : ¬ (σ.1 6 = 4 ∧ σ.1 7 = L 1) → Tm (fun k => x_isSign k 1 L σ) (fun r => r.2 = σ ∧ (¬ r.1 = 0 ↔ (σ.1 6 = 4 ∧ σ.1 7 = L 1))) := fun h => by
    refine Tm_suc (fun k => by rw [x_isSign]) ?_
    exact out 0 _ upd_same (Or.inl rfl) ⟨fun q => absurd rfl q, fun q => absurd q h⟩
  refine Tm_suc (fun k => by rw [x_isSign]) ?_
  refine Tm_ite (fun c => ?_) (fun c => no (fun h => c h.1))
  refine Tm_ite (fun d => ?_) (fun d => no (fun h => d h.2))
  exact out 1 _ upd_same (Or.inr rfl) ⟨fun _ => ⟨c, d⟩, fun _ => by decide⟩
theorem s_isWord (L : Nat → Int32) (σ : MS) : Tm (fun k => x_isWord k 0 L σ) (fun r => r.2 = σ ∧ (¬ r.1 = 0 ↔ (σ.1 6 = 5 ∧ σ.1 7 = L 1))) := by
  have out : ∀ (x : Int32) (M : Nat → Int32), M 100 = x → (x = 0 ∨ x = 1) → (¬ x = 0 ↔ (σ.1 6 = 5 ∧ σ.1 7 = L 1)) → Tm (fun k => x_isWord k 2 M σ) (fun r => r.2 = σ ∧ (¬ r.1 = 0 ↔ (σ.1 6 = 5 ∧ σ.1 7 = L 1))) := fun x M hx h01 h => by
    refine Tm_suc (fun k => by rw [x_isWord]) ?_
    rw [hx]
    refine Tm_chk h01 ?_
    exact Tm_some ⟨rfl, h⟩
  have no : ¬ (σ.1 6 = 5 ∧ σ.1 7 = L 1) → Tm (fun k => x_isWord k 1 L σ) (fun r => r.2 = σ ∧ (¬ r.1 = 0 ↔ (σ.1 6 = 5 ∧ σ.1 7 = L 1))) := fun h => by
    refine Tm_suc (fun k => by rw [x_isWord]) ?_
    exact out 0 _ upd_same (Or.inl rfl) ⟨fun q => absurd rfl q, fun q => absurd q h⟩
  refine Tm_suc (fun k => by rw [x_isWord]) ?_
  refine Tm_ite (fun c => ?_) (fun c => no (fun h => c h.1))
  refine Tm_ite (fun d => ?_) (fun d => no (fun h => d h.2))
  exact out 1 _ upd_same (Or.inr rfl) ⟨fun _ => ⟨c, d⟩, fun _ => by decide⟩
/-- the state with a fault n at p, if none was met -/
def mFlt (σ : MS) (n p : Int32) : MS := if σ.1 10 = 0 then (upd (upd (upd σ.1 10 1) 11 n) 12 p, σ.2) else σ
theorem s_cannot (L : Nat → Int32) (σ : MS) : Tm (fun k => x_cannot k 0 L σ) (fun r => r = (0, mFlt σ 2 (σ.1 8))) := by
  refine Tm_suc (fun k => by rw [x_cannot]) ?_
  refine Tm_ob (s_fault _ _) (fun r hr => ?_)
  subst hr
  first
    | (refine Tm_some ?_; unfold mFlt; rw [upd_same, upd_other (by decide), upd_same])
    | (refine Tm_suc (fun k => by rw [x_cannot]) ?_; refine Tm_some ?_; unfold mFlt; rw [upd_same, upd_other (by decide), upd_same])
end JnS20
