/-! Names and words: the bytes as one number. -/
def kN (f : Nat → Int32) : Nat → Nat
  | 0 => 0
  | m + 1 => kN f m * 256 + (f m).toInt.toNat
abbrev okB (c : Int32) : Prop := 1 ≤ c.toInt ∧ c.toInt ≤ 127
theorem kN_lt (f : Nat → Int32) : ∀ m : Nat, (∀ i, i < m → okB (f i)) → 2 * kN f m < 256 ^ m ∨ m = 0
  | 0, _ => Or.inr rfl
  | m + 1, h => by
    have hm := h m (by omega)
    have := kN_lt f m (fun i hi => h i (by omega))
    refine Or.inl ?_
    show 2 * (kN f m * 256 + (f m).toInt.toNat) < 256 ^ (m + 1)
    rw [Nat.pow_succ]
    rcases this with q | q
    · omega
    · subst q
      show 2 * (0 * 256 + _) < _
      omega
theorem kN_pos (f : Nat → Int32) (m : Nat) (h : okB (f m)) : 0 < kN f (m + 1) := by
  show 0 < kN f m * 256 + (f m).toInt.toNat
  omega
theorem kN_inj (f g : Nat → Int32) : ∀ m m' : Nat, (∀ i, i < m → okB (f i)) → (∀ i, i < m' → okB (g i)) → kN f m = kN g m' → m = m' ∧ ∀ i, i < m → f i = g i
  | 0, 0, _, _, _ => ⟨rfl, fun i hi => absurd hi (by omega)⟩
  | 0, m' + 1, _, hg, e => by
    have := kN_pos g m' (hg m' (by omega))
    have e0 : kN f 0 = 0 := rfl
    omega
  | m + 1, 0, hf, _, e => by
    have := kN_pos f m (hf m (by omega))
    have e0 : kN g 0 = 0 := rfl
    omega
  | m + 1, m' + 1, hf, hg, e => by
    have e : kN f m * 256 + (f m).toInt.toNat = kN g m' * 256 + (g m').toInt.toNat := e
    have a := hf m (by omega)
    have b := hg m' (by omega)
    obtain ⟨h1, h2⟩ := kN_inj f g m m' (fun i hi => hf i (by omega)) (fun i hi => hg i (by omega)) (by omega)
    subst h1
    refine ⟨rfl, fun i hi => ?_⟩
    by_cases c : i = m
    · subst c; rw [i_eq]; omega
    · exact h2 i (by omega)
theorem byte64 {c : Int32} (h : okB c) : c.toInt64.toBitVec.toNat = c.toInt.toNat := by
  have e : c.toInt64.toBitVec.toInt = c.toInt := Int32.toInt_toInt64 c
  rw [BitVec.toInt_eq_toNat_cond] at e
  have hlt := c.toInt64.toBitVec.isLt
  split at e
  · omega
  · omega
theorem keyH_nat (R : Nat → Int32) (a : Nat) : ∀ m : Nat, m ≤ 8 → (∀ i, i < m → okB (R (a + i))) → (keyH R a m).toBitVec.toNat = kN (fun i => R (a + i)) m
  | 0, _, _ => rfl
  | m + 1, hm, h => by
    have ih := keyH_nat R a m (by omega) (fun i hi => h i (by omega))
    have hb := byte64 (h m (by omega))
    have hok := h m (by omega)
    have hlt := kN_lt (fun i => R (a + i)) m (fun i hi => h i (by omega))
    show (if m < 8 then keyH R a m <<< ((8 : Int32).toInt64 &&& 63) ||| (R (a + m)).toInt64 else keyH R a m).toBitVec.toNat = kN (fun i => R (a + i)) m * 256 + (R (a + m)).toInt.toNat
    rw [if_pos (by omega), Int64.toBitVec_or, BitVec.toNat_or, hb]
    have e : (keyH R a m <<< ((8 : Int32).toInt64 &&& 63)).toBitVec = (keyH R a m).toBitVec <<< 8 := by
      rw [show keyH R a m <<< ((8 : Int32).toInt64 &&& 63) = keyH R a m <<< (8 : Int64) from rfl, Int64.toBitVec_shiftLeft]; rfl
    have hp : kN (fun i => R (a + i)) m * 256 < 2 ^ 64 := by
      rcases hlt with q | q
      · have : (256 : Nat) ^ m ≤ 256 ^ 7 := Nat.pow_le_pow_right (by decide) (by omega)
        have e7 : (256 : Nat) ^ 7 = 72057594037927936 := by decide
        omega
      · subst q; show 0 * 256 < _; decide
    rw [e, BitVec.toNat_shiftLeft, ih, Nat.shiftLeft_eq, Nat.mod_eq_of_lt (by omega), show (2 : Nat) ^ 8 = 256 from rfl, ← Nat.shiftLeft_eq _ 8, ← Nat.shiftLeft_add_eq_or_of_lt (by omega), Nat.shiftLeft_eq]
/-- the words' numbers -/
def wdF (w i : Nat) : Int32 := (wdL.getD w []).getD i 0
set_option maxRecDepth 20000 in
theorem wd_ok : ∀ w, w < 53 → (wdL.getD w []).length ≤ 8 ∧ ∀ i, i < (wdL.getD w []).length → okB (wdF w i) := by decide +kernel
set_option maxRecDepth 20000 in
theorem wd_key : ∀ w, w < 53 → (lxW w).toBitVec.toNat = kN (wdF w) (wdL.getD w []).length := by decide +kernel
set_option maxRecDepth 20000 in
theorem wd_ne : ∀ v, v < 53 → ∀ w, w < v → ¬ wdL.getD v [] = wdL.getD w [] := by decide +kernel
section WD
variable {T R : Nat → Int32} {a e : Nat}
/-- the number is a word's just where the bytes are -/
theorem wd_same (hae : a ≤ e) (h8 : e - a ≤ 8) (hok : ∀ i, a ≤ i → i < e → okB (R i)) (hT : ∀ i, a ≤ i → i < e → T i = R i) {w : Nat} (hw : w < 53) : lxW w = keyH R a (e - a) ↔ wdL.getD w [] = seg T a e := by
  have hR : ∀ i, i < e - a → okB (R (a + i)) := fun i hi => hok (a + i) (by omega) (by omega)
  have hk := keyH_nat R a (e - a) h8 hR
  have hl := wd_ok w hw
  rw [← Int64.toBitVec_inj, ← BitVec.toNat_inj, wd_key w hw, hk]
  constructor
  · intro h
    obtain ⟨h1, h2⟩ := kN_inj _ _ _ _ hl.2 hR h
    exact seg_eq h1 (fun i hi => by rw [hT (a + i) (by omega) (by omega)]; exact h2 i (by omega))
  · intro h
    have h1 : (wdL.getD w []).length = e - a := by rw [h, seg_len]
    rw [h1]
    have aux : ∀ m : Nat, m ≤ e - a → kN (wdF w) m = kN (fun i => R (a + i)) m := by
      intro m
      induction m with
      | zero => intro _; rfl
      | succ m ih =>
        intro hm
        show kN (wdF w) m * 256 + (wdF w m).toInt.toNat = kN (fun i => R (a + i)) m * 256 + (R (a + m)).toInt.toNat
        have : wdF w m = R (a + m) := by
          show (wdL.getD w []).getD m 0 = _
          rw [h, seg_at (by omega)]; exact hT (a + m) (by omega) (by omega)
        rw [ih (by omega), this]
    exact aux _ (Nat.le_refl _)
/-- what the words say of both -/
theorem words_same (hae : a ≤ e) (h8 : e - a ≤ 8) (hok : ∀ i, a ≤ i → i < e → okB (R i)) (hT : ∀ i, a ≤ i → i < e → T i = R i) : ∀ (m w : Nat) (kd : Int32), m + w = 53 → wdK lxW (keyH R a (e - a)) m w kd = (if wordF (seg T a e) m w = -1 then kd else 32 + wordF (seg T a e) m w) := by
  intro m
  induction m with
  | zero => intro w kd hm; exact (if_pos rfl).symm
  | succ m ih =>
    intro w kd hm
    have e1 : wdK lxW (keyH R a (e - a)) (m + 1) w kd = wdK lxW (keyH R a (e - a)) m (w + 1) (if lxW w = keyH R a (e - a) then 32 + nI w else kd) := rfl
    have e2 : wordF (seg T a e) (m + 1) w = if wdL.getD w [] = seg T a e then nI w else wordF (seg T a e) m (w + 1) := rfl
    have hs := wd_same hae h8 hok hT (T := T) (w := w) (by omega)
    rw [e1, e2]
    by_cases c : wdL.getD w [] = seg T a e
    · rw [if_pos (hs.mpr c), if_pos c]
      -- no other word is the same
      have no : ∀ (m v : Nat) (kd : Int32), m + v = 53 → w < v → wdK lxW (keyH R a (e - a)) m v kd = kd := by
        intro m
        induction m with
        | zero => intro v kd _ _; rfl
        | succ m ih2 =>
          intro v kd hv hw
          show wdK lxW (keyH R a (e - a)) m (v + 1) (if lxW v = keyH R a (e - a) then 32 + nI v else kd) = kd
          have hne : ¬ lxW v = keyH R a (e - a) := fun q => by
            have q := (wd_same hae h8 hok hT (T := T) (w := v) (by omega)).mp q
            exact wd_ne v (by omega) w hw (q.trans c.symm)
          rw [if_neg hne]
          exact ih2 (v + 1) kd (by omega) (by omega)
      rw [no m (w + 1) _ (by omega) (by omega), if_neg (fun q => by
        have hw : w < 53 := by omega
        rw [i_eq, n_int (by omega)] at q
        have : (-1 : Int32).toInt = -1 := rfl
        omega)]
    · rw [if_neg (fun q => c (hs.mp q)), if_neg c]
      exact ih (w + 1) kd (by omega)
end WD
