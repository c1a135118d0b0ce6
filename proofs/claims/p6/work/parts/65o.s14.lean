/-! Both sides have the same bytes: what the one skips the other does. -/
set_option maxRecDepth 20000 in
theorem u8_all : ∀ k : Nat, k < 256 → (Int32.ofInt ((k : Int) - 128) &&& 255).toInt = if 128 ≤ k then (k : Int) - 128 else (k : Int) + 128 := by decide +kernel
theorem u8_int {c : Int32} (h : fits .byte (.int c) = true) : (c &&& 255).toInt = if 0 ≤ c.toInt then c.toInt else c.toInt + 256 := by
  have hb := fits_byte' h
  have e : c = Int32.ofInt (((c.toInt + 128).toNat : Int) - 128) := by
    rw [i_eq, Int32.toInt_ofInt_of_le (by omega) (by omega)]; omega
  have := u8_all (c.toInt + 128).toNat (by omega)
  rw [← e] at this
  rw [this]
  by_cases g : 0 ≤ c.toInt
  · rw [if_pos g, if_pos (by omega)]; omega
  · rw [if_neg g, if_neg (by omega)]; omega
theorem u8_eq {c : Int32} (h : fits .byte (.int c) = true) {k : Int32} (h0 : 0 ≤ k.toInt) (h1 : k.toInt ≤ 127) : c &&& 255 = k ↔ c = k := by
  have hb := fits_byte' h
  rw [i_eq, i_eq, u8_int h]
  by_cases g : 0 ≤ c.toInt
  · rw [if_pos g]
  · rw [if_neg g]; omega
/-- T has the bytes of R -/
def sameT (T R : Nat → Int32) (n : Nat) : Prop := (∀ i, i < n → T i = R i &&& 255) ∧ (∀ i, i < n + 2 → fits .byte (.int (R i)) = true) ∧ R n = 0 ∧ R (n + 1) = 0
section SAME
variable {T R : Nat → Int32} {n : Nat}
theorem same_eq (h : sameT T R n) {i : Nat} (hi : i < n) {k : Int32} (h0 : 0 ≤ k.toInt) (h1 : k.toInt ≤ 127) : T i = k ↔ R i = k := by
  rw [h.1 i hi]; exact u8_eq (h.2.1 i (by omega)) h0 h1
/-- behind the tape both are 0 -/
theorem same_rB (h : sameT T R n) {i : Nat} (hi : i ≤ n + 1) {k : Int32} (h0 : 0 < k.toInt) (h1 : k.toInt ≤ 127) : rB T n i = k ↔ R i = k := by
  unfold rB
  by_cases c : i < n
  · rw [if_pos c]; exact same_eq h c (by omega) h1
  · rw [if_neg c]
    have : R i = 0 := by
      rcases (show i = n ∨ i = n + 1 by omega) with e | e
      · rw [e]; exact h.2.2.1
      · rw [e]; exact h.2.2.2
    rw [this]
theorem lxC_blank : ∀ c : Nat, c < 128 → (lxC.getD c 0 = 31 ↔ (c = 9 ∨ c = 10 ∨ c = 13 ∨ c = 32)) := by decide +kernel
theorem cls_blank {c : Int32} (hf : fits .byte (.int c) = true) : cls c = 31 ↔ isB c := by
  unfold cls
  have hb := fits_byte' hf
  unfold isB
  rw [i_eq (x := c) (y := 9), i_eq (x := c) (y := 10), i_eq (x := c) (y := 13), i_eq (x := c) (y := 32), show (9 : Int32).toInt = 9 from rfl, show (10 : Int32).toInt = 10 from rfl, show (13 : Int32).toInt = 13 from rfl, show (32 : Int32).toInt = 32 from rfl]
  by_cases h0 : c < 0
  · rw [if_pos h0]
    rw [i_lt, i_c0] at h0
    exact ⟨fun q => absurd q (by decide), fun q => by omega⟩
  · rw [if_neg h0]
    rw [i_lt, i_c0] at h0
    have hc := i_clamp (x := c) (by omega)
    rw [lxC_blank c.toNatClampNeg (by omega)]
    omega
theorem same_blank (h : sameT T R n) {i : Nat} (hi : i < n) : isB (T i) ↔ cls (R i) = 31 := by
  rw [cls_blank (h.2.1 i (by omega))]
  unfold isB
  rw [same_eq h hi (k := 9) (by decide) (by decide), same_eq h hi (k := 10) (by decide) (by decide), same_eq h hi (k := 13) (by decide) (by decide), same_eq h hi (k := 32) (by decide) (by decide)]
theorem noteE_step {f p : Nat} : noteE T n (f + 1) p = if p < n ∧ ¬ T p = 10 then noteE T n f (p + 1) else p := rfl
/-- the fuel does not matter -/
theorem noteE_fuel : ∀ (d p f g : Nat), n - p ≤ d → n - p ≤ f → n - p ≤ g → noteE T n f p = noteE T n g p
  | 0, p, f, g, hd, hf, hg => by
    have a : ∀ f : Nat, noteE T n f p = p := fun f => by
      cases f with
      | zero => rfl
      | succ f => rw [noteE_step, if_neg (by omega)]
    rw [a f, a g]
  | d + 1, p, f, g, hd, hf, hg => by
    by_cases c : p < n ∧ ¬ T p = 10
    · obtain ⟨f, rfl⟩ : ∃ m, f = m + 1 := ⟨f - 1, by omega⟩
      obtain ⟨g, rfl⟩ : ∃ m, g = m + 1 := ⟨g - 1, by omega⟩
      rw [noteE_step, noteE_step, if_pos c, if_pos c]
      exact noteE_fuel d (p + 1) f g (by omega) (by omega) (by omega)
    · have a : ∀ f : Nat, noteE T n f p = p := fun f => by
        cases f with
        | zero => rfl
        | succ f => rw [noteE_step, if_neg c]
      rw [a f, a g]
theorem noteE_end : ∀ (f p : Nat), n - p ≤ f → p ≤ n → noteE T n f p = n ∨ (noteE T n f p < n ∧ T (noteE T n f p) = 10)
  | 0, p, hf, hp => Or.inl (by show p = n; omega)
  | f + 1, p, hf, hp => by
    rw [noteE_step]
    by_cases c : p < n ∧ ¬ T p = 10
    · rw [if_pos c]; exact noteE_end f (p + 1) (by omega) (by omega)
    · rw [if_neg c]
      by_cases d : p < n
      · exact Or.inr ⟨d, Classical.byContradiction (fun h => c ⟨d, h⟩)⟩
      · exact Or.inl (by omega)
/-- a note of the house ends where that of the reference does -/
theorem cSk_note (h : sameT T R n) : ∀ (f i g : Nat), n - i < f → i ≤ n → n - i ≤ g → ∃ f' : Nat, n - noteE T n g i ≤ f' ∧ cSk R n f true i = (if noteE T n g i < n then cSk R n f' false (noteE T n g i + 1) else n)
  | 0, i, g, hf, hi, hg => absurd hf (by omega)
  | f + 1, i, g, hf, hi, hg => by
    rw [cSk_step]
    by_cases c : i < n
    · rw [if_pos c]
      obtain ⟨g, rfl⟩ : ∃ m, g = m + 1 := ⟨g - 1, by omega⟩
      have e10 := same_eq h c (k := 10) (by decide) (by decide)
      rw [noteE_step]
      show ∃ f', _ ∧ (if decide (¬ R i = 10) = true ∨ cls (R i) = 31 then cSk R n f (decide (¬ R i = 10)) (i + 1) else i) = _
      by_cases d : R i = 10
      · rw [if_neg (fun q => q.2 (e10.mpr d))]
        have hcl : cls (R i) = 31 := (cls_blank (h.2.1 i (by omega))).mpr (Or.inr (Or.inl d))
        rw [if_pos (Or.inr hcl), decide_eq_false (fun q => q d)]
        exact ⟨f, by omega, by rw [if_pos c]⟩
      · rw [if_pos ⟨c, fun q => d (e10.mp q)⟩, decide_eq_true d, if_pos (Or.inl rfl)]
        exact cSk_note h f (i + 1) g (by omega) (by omega) (by omega)
    · rw [if_neg c]
      have a : noteE T n g i = i := by
        cases g with
        | zero => rfl
        | succ g => rw [noteE_step, if_neg (by omega)]
      rw [a]
      exact ⟨0, by omega, by rw [if_neg c]; omega⟩
theorem skE_step {f p : Nat} : skE T n (f + 1) p = if p < n ∧ isB (T p) then skE T n f (p + 1) else if noteB T n p then skE T n f (noteE T n n p) else p := rfl
theorem skE_n : ∀ f : Nat, skE T n f n = n
  | 0 => rfl
  | f + 1 => by
    rw [skE_step, if_neg (by omega), if_neg (fun q => by have := noteB_lt q; omega)]
theorem skip_same (h : sameT T R n) : ∀ (d i f g : Nat), n - i ≤ d → i ≤ n → n - i < f → n - i < g → cSk R n f false i = skE T n g i
  | 0, i, f, g, hd, hi, hf, hg => by
    obtain rfl : i = n := by omega
    rw [skE_n]
    cases f with
    | zero => rfl
    | succ f => rw [cSk_step, if_neg (by omega)]
  | d + 1, i, f, g, hd, hi, hf, hg => by
    obtain ⟨f, rfl⟩ : ∃ m, f = m + 1 := ⟨f - 1, by omega⟩
    obtain ⟨g, rfl⟩ : ∃ m, g = m + 1 := ⟨g - 1, by omega⟩
    by_cases c : i < n
    · rw [cSk_step, if_pos c, skE_step]
      have e45 := same_rB h (i := i) (by omega) (k := 45) (by decide) (by decide)
      have e46 := same_rB h (i := i + 1) (by omega) (k := 45) (by decide) (by decide)
      show (if decide (R i = 45 ∧ R (i + 1) = 45) = true ∨ cls (R i) = 31 then cSk R n f (decide (R i = 45 ∧ R (i + 1) = 45)) (i + 1) else i) = _
      by_cases nb : R i = 45 ∧ R (i + 1) = 45
      · have hnb : noteB T n i := ⟨e45.mpr nb.1, e46.mpr nb.2⟩
        have hT45 : T i = 45 := (noteB_lt hnb).2.1
        have hnob : ¬ (i < n ∧ isB (T i)) := fun q => by
          rw [hT45] at q; exact absurd q.2 (by decide)
        rw [if_neg hnob, if_pos hnb, decide_eq_true nb, if_pos (Or.inl rfl)]
        have hstep : noteE T n n i = noteE T n (n - 1) (i + 1) := by
          obtain ⟨m, hm⟩ : ∃ m, n = m + 1 := ⟨n - 1, by omega⟩
          rw [show noteE T n n i = noteE T n (m + 1) i by rw [← hm], noteE_step, if_pos ⟨c, by rw [hT45]; decide⟩, show m = n - 1 by omega]
        obtain ⟨f', hf', e⟩ := cSk_note h f (i + 1) (n - 1) (by omega) (by omega) (by omega)
        rw [e, ← hstep]
        rw [← hstep] at hf'
        have hgt := noteE_gt hnb
        rcases noteE_end n i (by omega) hi (T := T) with q | ⟨q1, q2⟩
        · rw [q, if_neg (by omega), skE_n]
        · rw [if_pos q1]
          obtain ⟨g, rfl⟩ : ∃ m, g = m + 1 := ⟨g - 1, by omega⟩
          rw [skE_step, if_pos ⟨q1, Or.inr (Or.inl q2)⟩]
          exact skip_same h d _ f' g (by omega) (by omega) (by omega) (by omega)
      · have hnb : ¬ noteB T n i := fun q => nb ⟨e45.mp q.1, e46.mp q.2⟩
        rw [decide_eq_false nb]
        by_cases b : cls (R i) = 31
        · rw [if_pos (Or.inr b), if_pos ⟨c, (same_blank h c).mpr b⟩]
          exact skip_same h d (i + 1) f g (by omega) (by omega) (by omega) (by omega)
        · rw [if_neg (fun q => q.elim (fun q => by cases q) b), if_neg (fun q => b ((same_blank h c).mp q.2)), if_neg hnb]
    · obtain rfl : i = n := by omega
      rw [skE_n, cSk_step, if_neg c]
/-- both find the token at one place -/
theorem sk_same (h : sameT T R n) {p : Nat} (hp : p ≤ n) : cSk R n (n + 1) false p = sk T n p := skip_same h n p (n + 1) (n + 1) (by omega) hp (by omega) (by omega)
end SAME
