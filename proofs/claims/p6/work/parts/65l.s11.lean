/-! The house reads tokens. -/
theorem upd_comm {f : Nat → Int32} {j k : Nat} {x y : Int32} (h : j ≠ k) : upd (upd f j x) k y = upd (upd f k y) j x := by
  funext i
  unfold upd
  by_cases a : i = j
  · subst a; rw [if_pos rfl, if_neg h, if_pos rfl]
  · rw [if_neg a, if_neg a]
theorem updW_same {f : Nat → Int64} {k : Nat} {x : Int64} : updW f k x k = x := if_pos rfl
theorem updW_other {f : Nat → Int64} {k j : Nat} {x : Int64} (h : j ≠ k) : updW f k x j = f j := if_neg h
theorem updW_updW {f : Nat → Int64} {k : Nat} {x y : Int64} : updW (updW f k x) k y = updW f k y := by
  funext j
  unfold updW
  by_cases h : j = k
  · rw [if_pos h, if_pos h]
  · rw [if_neg h, if_neg h, if_neg h]
theorem updW_comm {f : Nat → Int64} {j k : Nat} {x y : Int64} (h : j ≠ k) : updW (updW f j x) k y = updW (updW f k y) j x := by
  funext i
  unfold updW
  by_cases a : i = j
  · subst a; rw [if_pos rfl, if_neg h, if_pos rfl]
  · rw [if_neg a, if_neg a]
theorem updW_self {f : Nat → Int64} {k : Nat} : updW f k (f k) = f := by
  funext j
  unfold updW
  by_cases h : j = k
  · rw [if_pos h, h]
  · rw [if_neg h]
/-- the state with another token: kind, start, end, the name's bytes -/
def sA (σ : CS) (kd st en : Int32) (hi lo : Int64) : CS := (upd (upd (upd σ.1 3702 kd) 3703 st) 3704 en, updW (updW σ.2.1 3705 hi) 3706 lo, σ.2.2)
section SA
variable {σ : CS} {kd st en : Int32} {hi lo : Int64}
theorem sA_self : sA σ (σ.1 3702) (σ.1 3703) (σ.1 3704) (σ.2.1 3705) (σ.2.1 3706) = σ := by
  unfold sA
  rw [upd_self, upd_self, upd_self, updW_self, updW_self]
theorem sA_r1 : (sA σ kd st en hi lo).1 3701 = σ.1 3701 := by
  show upd (upd (upd σ.1 3702 kd) 3703 st) 3704 en 3701 = _
  rw [upd_other (by decide), upd_other (by decide), upd_other (by decide)]
theorem sA_r2 : (sA σ kd st en hi lo).1 3702 = kd := by
  show upd (upd (upd σ.1 3702 kd) 3703 st) 3704 en 3702 = _
  rw [upd_other (by decide), upd_other (by decide), upd_same]
theorem sA_r3 : (sA σ kd st en hi lo).1 3703 = st := by
  show upd (upd (upd σ.1 3702 kd) 3703 st) 3704 en 3703 = _
  rw [upd_other (by decide), upd_same]
theorem sA_r4 : (sA σ kd st en hi lo).1 3704 = en := by
  show upd (upd (upd σ.1 3702 kd) 3703 st) 3704 en 3704 = _
  rw [upd_same]
theorem sA_r5 : (sA σ kd st en hi lo).2.1 3705 = hi := by
  show updW (updW σ.2.1 3705 hi) 3706 lo 3705 = _
  rw [updW_other (by decide), updW_same]
theorem sA_r6 : (sA σ kd st en hi lo).2.1 3706 = lo := by
  show updW (updW σ.2.1 3705 hi) 3706 lo 3706 = _
  rw [updW_same]
theorem sA_w2 {v : Int32} : uI (sA σ kd st en hi lo) 3702 v = sA σ v st en hi lo := by
  show (upd (upd (upd (upd σ.1 3702 kd) 3703 st) 3704 en) 3702 v, updW (updW σ.2.1 3705 hi) 3706 lo, σ.2.2) = (upd (upd (upd σ.1 3702 v) 3703 st) 3704 en, updW (updW σ.2.1 3705 hi) 3706 lo, σ.2.2)
  rw [upd_comm (by decide : (3704 : Nat) ≠ 3702), upd_comm (by decide : (3703 : Nat) ≠ 3702), upd_upd]
theorem sA_w3 {v : Int32} : uI (sA σ kd st en hi lo) 3703 v = sA σ kd v en hi lo := by
  show (upd (upd (upd (upd σ.1 3702 kd) 3703 st) 3704 en) 3703 v, updW (updW σ.2.1 3705 hi) 3706 lo, σ.2.2) = (upd (upd (upd σ.1 3702 kd) 3703 v) 3704 en, updW (updW σ.2.1 3705 hi) 3706 lo, σ.2.2)
  rw [upd_comm (by decide : (3704 : Nat) ≠ 3703), upd_upd]
theorem sA_w4 {v : Int32} : uI (sA σ kd st en hi lo) 3704 v = sA σ kd st v hi lo := by
  show (upd (upd (upd (upd σ.1 3702 kd) 3703 st) 3704 en) 3704 v, updW (updW σ.2.1 3705 hi) 3706 lo, σ.2.2) = (upd (upd (upd σ.1 3702 kd) 3703 st) 3704 v, updW (updW σ.2.1 3705 hi) 3706 lo, σ.2.2)
  rw [upd_upd]
theorem sA_w5 {v : Int64} : uL (sA σ kd st en hi lo) 3705 v = sA σ kd st en v lo := by
  show (upd (upd (upd σ.1 3702 kd) 3703 st) 3704 en, updW (updW (updW σ.2.1 3705 hi) 3706 lo) 3705 v, σ.2.2) = (upd (upd (upd σ.1 3702 kd) 3703 st) 3704 en, updW (updW σ.2.1 3705 v) 3706 lo, σ.2.2)
  rw [updW_comm (by decide : (3706 : Nat) ≠ 3705), updW_updW]
theorem sA_w6 {v : Int64} : uL (sA σ kd st en hi lo) 3706 v = sA σ kd st en hi v := by
  show (upd (upd (upd σ.1 3702 kd) 3703 st) 3704 en, updW (updW (updW σ.2.1 3705 hi) 3706 lo) 3706 v, σ.2.2) = (upd (upd (upd σ.1 3702 kd) 3703 st) 3704 en, updW (updW σ.2.1 3705 hi) 3706 v, σ.2.2)
  rw [updW_updW]
end SA
/-- the house's tape has n bytes, two zeros behind it -/
def cN (σ : CS) (n : Nat) : Prop := σ.1 3701 = nI n ∧ n ≤ 32768 ∧ n + 2 ≤ sN σ 38 ∧ sN σ 38 ≤ 32770 ∧ tFit (σ.2.2.1 38) (sN σ 38) ∧ σ.2.2.1 38 n = 0 ∧ σ.2.2.1 38 (n + 1) = 0
theorem cN_sA {σ : CS} {n : Nat} {kd st en : Int32} {hi lo : Int64} (h : cN σ n) : cN (sA σ kd st en hi lo) n := ⟨by rw [sA_r1]; exact h.1, h.2⟩
/-- the kind that a byte begins with -/
def cls (c : Int32) : Int32 := if c < 0 then 0 else lxC.getD c.toNatClampNeg 0
theorem byte_in {c : Int32} (h : fits .byte (.int c) = true) (h0 : ¬ c < 0) : ¬ (c < 0 ∨ 128 ≤ c.toNatClampNeg) := by
  have := fits_byte' h
  rw [i_lt, i_c0] at h0
  exact i_in (by omega) (by omega)
abbrev cNote (R : Nat → Int32) (i : Nat) (note : Bool) : Bool := if note then decide (¬ R i = 10) else decide (R i = 45 ∧ R (i + 1) = 45)
def cSk (R : Nat → Int32) (n : Nat) : Nat → Bool → Nat → Nat
  | 0, _, i => i
  | f + 1, note, i => if i < n then (if cNote R i note = true ∨ cls (R i) = 31 then cSk R n f (cNote R i note) (i + 1) else i) else i
theorem cSk_step {R : Nat → Int32} {n f i : Nat} {note : Bool} : cSk R n (f + 1) note i = if i < n then (if cNote R i note = true ∨ cls (R i) = 31 then cSk R n f (cNote R i note) (i + 1) else i) else i := rfl
theorem cSk_le (R : Nat → Int32) (n : Nat) : ∀ (f : Nat) (note : Bool) (i : Nat), i ≤ n → cSk R n f note i ≤ n
  | 0, _, i, h => h
  | f + 1, note, i, h => by
    rw [cSk_step]
    by_cases c : i < n
    · rw [if_pos c]
      by_cases d : cNote R i note = true ∨ cls (R i) = 31
      · rw [if_pos d]; exact cSk_le R n f _ (i + 1) (by omega)
      · rw [if_neg d]; exact h
    · rw [if_neg c]; exact h
def b2i (b : Bool) : Int32 := if b then 1 else 0
theorem between_loop {σ : CS} {n : Nat} (hn : cN σ n) (Q : RS → Prop) : ∀ (f : Nat) (note : Bool) (i : Nat) (L : LV), n - i < f → i ≤ n → L.1 1 = nI i → L.1 2 = b2i note → L.1 3 = 1 → L.1 4 = nI i → (∀ M : LV, M.1 1 = nI (cSk (σ.2.2.1 38) n f note i) → Tm (fun k => f_X2_advance k 2 M σ) Q) → Tm (fun k => f_X2_advance k 1 L σ) Q := by
  obtain ⟨h1, hN, hS, hS2, hfit, z0, z1⟩ := hn
  intro f
  induction f with
  | zero => intro note i L h; omega
  | succ f ih =>
    intro note i L hf hi l1 l2 l3 l4 t
    rw [cSk_step] at t
    refine Tm_suc (fun k => by rw [f_X2_advance]) ?_
    rw [h1, l4]
    refine Tm_ite (fun c => ?_) (fun c => ?_)
    · rw [n_le (by omega) (by omega)] at c
      rw [if_neg (by omega)] at t
      exact t L l1
    rw [n_le (by omega) (by omega)] at c
    rw [if_pos (by omega)] at t
    refine Tm_ite (fun d => absurd d (by rw [l3]; decide)) (fun _ => ?_)
    refine Tm_chk (n_in (by omega) (by omega)) ?_
    rw [n_cl (p := i) (by omega)]
    have hb := hfit i (by omega)
    -- behind the test: x says whether it lies between
    have join : ∀ (x : Bool) (note' : Bool) (M : LV), M.1 1 = nI i → M.1 2 = b2i note' → M.1 4 = nI i → M.1 100 = b2i x → (x = true ↔ (cNote (σ.2.2.1 38) i note = true ∨ cls (σ.2.2.1 38 i) = 31)) → note' = cNote (σ.2.2.1 38) i note → Tm (fun k => f_X2_advance k 13 M σ) Q := by
      intro x note' M m1 m2 m4 m100 hx hnote
      refine Tm_suc (fun k => by rw [f_X2_advance]) ?_
      rw [m100, m4]
      cases x with
      | false =>
        refine Tm_ite (fun _ => ?_) (fun c => absurd rfl c)
        have hno : ¬ (cNote (σ.2.2.1 38) i note = true ∨ cls (σ.2.2.1 38 i) = 31) := fun h => by have := hx.mpr h; cases this
        rw [if_neg hno] at t
        refine Tm_suc (fun k => by rw [f_X2_advance]) ?_
        rw [lI_other (by decide), m4]
        refine Tm_suc (fun k => by rw [f_X2_advance]) ?_
        refine Tm_suc (fun k => by rw [f_X2_advance]) ?_
        rw [h1, lI_same, lI_same, lI_other (by decide), lI_other (by decide), m4, n_add1]
        refine Tm_ite (fun c => ?_) (fun c => ?_)
        · exact t _ (by rw [lI_other (by decide), lI_same])
        · refine Tm_ite (fun _ => ?_) (fun c => ?_)
          · exact t _ (by rw [lI_other (by decide), lI_same])
          · exact absurd (by rw [lI_other (by decide), lI_other (by decide), lI_other (by decide), lI_same]; rfl) c
      | true =>
        refine Tm_ite (fun c => absurd c (by decide)) (fun _ => ?_)
        have hyes := hx.mp rfl
        rw [if_pos hyes] at t
        rw [n_add1]
        refine Tm_suc (fun k => by rw [f_X2_advance]) ?_
        rw [lI_same, lI_other (by decide), lI_other (by decide), m4, n_add1]
        refine ih note' (i + 1) _ (by omega) (by omega) ?_ ?_ ?_ ?_ (by rw [hnote]; exact t)
        · rw [lI_other (by decide), lI_same]
        · rw [lI_other (by decide), lI_other (by decide), lI_other (by decide), lI_other (by decide)]; exact m2
        · rw [lI_other (by decide), lI_other (by decide), lI_other (by decide), lI_same]; rfl
        · rw [lI_same]
    -- 5: the note is known
    have five : ∀ (M : LV), M.1 1 = nI i → M.1 4 = nI i → M.1 5 = σ.2.2.1 38 i → M.1 100 = b2i (cNote (σ.2.2.1 38) i note) → Tm (fun k => f_X2_advance k 5 M σ) Q := by
      intro M m1 m4 m5 m100
      have nine : (cNote (σ.2.2.1 38) i note = true ∨ cls (σ.2.2.1 38 i) = 31) → Tm (fun k => f_X2_advance k 9 (lI M 2 (M.1 100)) σ) Q := fun h => by
        refine Tm_suc (fun k => by rw [f_X2_advance]) ?_
        exact join true _ _ (by rw [lI_other (by decide), lI_other (by decide)]; exact m1) (by rw [lI_other (by decide), lI_same]; exact m100) (by rw [lI_other (by decide), lI_other (by decide)]; exact m4) (by rw [lI_same]; rfl) ⟨fun _ => h, fun _ => rfl⟩ rfl
      have ten : ¬ (cNote (σ.2.2.1 38) i note = true ∨ cls (σ.2.2.1 38 i) = 31) → Tm (fun k => f_X2_advance k 10 (lI M 2 (M.1 100)) σ) Q := fun h => by
        refine Tm_suc (fun k => by rw [f_X2_advance]) ?_
        exact join false _ _ (by rw [lI_other (by decide), lI_other (by decide)]; exact m1) (by rw [lI_other (by decide), lI_same]; exact m100) (by rw [lI_other (by decide), lI_other (by decide)]; exact m4) (by rw [lI_same]; rfl) ⟨fun q => (by cases q), fun q => absurd q h⟩ rfl
      refine Tm_suc (fun k => by rw [f_X2_advance]) ?_
      rw [m5]
      refine Tm_ite (fun c0 => ?_) (fun c0 => ?_)
      · have hf0 : cNote (σ.2.2.1 38) i note = false := by
          rw [m100] at c0
          generalize cNote (σ.2.2.1 38) i note = y at c0
          cases y with
          | false => rfl
          | true => exact absurd c0 (by decide)
        refine Tm_ite (fun cn => ?_) (fun cn => ?_)
        · refine ten (fun h => h.elim (fun q => by rw [hf0] at q; cases q) (fun q => ?_))
          unfold cls at q
          rw [if_pos cn] at q
          exact absurd q (by decide)
        · refine Tm_chk (byte_in hb cn) ?_
          have ec : cls (σ.2.2.1 38 i) = lxC.getD (σ.2.2.1 38 i).toNatClampNeg 0 := if_neg cn
          refine Tm_ite (fun c31 => nine (Or.inr (ec.trans c31))) (fun c31 => ten (fun h => h.elim (fun q => by rw [hf0] at q; cases q) (fun q => c31 (ec.symm.trans q))))
      · refine nine (Or.inl ?_)
        rw [m100] at c0
        generalize cNote (σ.2.2.1 38) i note = y at c0
        cases y with
        | false => exact absurd rfl c0
        | true => rfl
    cases note with
    | false =>
      refine Tm_ite (fun _ => ?_) (fun c => absurd l2 c)
      have eight : ¬ (σ.2.2.1 38 i = 45 ∧ σ.2.2.1 38 (i + 1) = 45) → Tm (fun k => f_X2_advance k 8 (lI L 5 (σ.2.2.1 38 i)) σ) Q := fun h => by
        refine Tm_suc (fun k => by rw [f_X2_advance]) ?_
        refine five _ (by rw [lI_other (by decide), lI_other (by decide)]; exact l1) (by rw [lI_other (by decide), lI_other (by decide)]; exact l4) (by rw [lI_other (by decide), lI_same]) ?_
        rw [lI_same]
        show (0 : Int32) = b2i (decide (σ.2.2.1 38 i = 45 ∧ σ.2.2.1 38 (i + 1) = 45))
        rw [decide_eq_false h]; rfl
      refine Tm_suc (fun k => by rw [f_X2_advance]) ?_
      rw [lI_same, lI_other (by decide), l4, n_add1]
      refine Tm_ite (fun c45 => ?_) (fun c45 => eight (fun h => c45 h.1))
      refine Tm_chk (n_in (by omega) (by omega)) ?_
      rw [n_cl (p := i + 1) (by omega)]
      refine Tm_ite (fun d45 => ?_) (fun d45 => eight (fun h => d45 h.2))
      refine five _ (by rw [lI_other (by decide), lI_other (by decide)]; exact l1) (by rw [lI_other (by decide), lI_other (by decide)]; exact l4) (by rw [lI_other (by decide), lI_same]) ?_
      rw [lI_same]
      show (1 : Int32) = b2i (decide (σ.2.2.1 38 i = 45 ∧ σ.2.2.1 38 (i + 1) = 45))
      rw [decide_eq_true ⟨c45, d45⟩]; rfl
    | true =>
      refine Tm_ite (fun c => absurd (l2.symm.trans c) (by decide)) (fun _ => ?_)
      refine Tm_ite (fun c10 => ?_) (fun c10 => ?_)
      · refine Tm_suc (fun k => by rw [f_X2_advance]) ?_
        refine five _ (by rw [lI_other (by decide), lI_other (by decide)]; exact l1) (by rw [lI_other (by decide), lI_other (by decide)]; exact l4) (by rw [lI_other (by decide), lI_same]) ?_
        rw [lI_same]
        show (0 : Int32) = b2i (decide (¬ σ.2.2.1 38 i = 10))
        rw [decide_eq_false (fun h => h c10)]; rfl
      · refine five _ (by rw [lI_other (by decide), lI_other (by decide)]; exact l1) (by rw [lI_other (by decide), lI_other (by decide)]; exact l4) (by rw [lI_other (by decide), lI_same]) ?_
        rw [lI_same]
        show (1 : Int32) = b2i (decide (¬ σ.2.2.1 38 i = 10))
        rw [decide_eq_true c10]; rfl
