/-! The words. -/
def wdL : List (List Int32) := [[118, 97, 114], [112, 114, 111, 99], [102, 117, 110, 99], [114, 100], [119, 114], [114, 119], [101, 110, 100], [105, 102], [116, 104, 101, 110], [101, 108, 115, 101, 105, 102], [101, 108, 115, 101], [119, 104, 105, 108, 101], [100, 111], [102, 111, 114], [105, 110], [110, 111, 116, 105, 110], [115, 117, 98, 115, 101, 116], [113, 117, 105, 116], [99, 111, 110, 116, 105, 110, 117, 101], [114, 101, 116, 117, 114, 110], [112, 114, 105, 110, 116], [97, 115, 115, 101, 114, 116], [115, 116, 111, 112], [115, 117, 99, 99, 101, 101, 100], [102, 97, 105, 108], [102, 114, 111, 109], [102, 114, 111, 109, 98], [102, 114, 111, 109, 101], [111, 109], [116, 114, 117, 101], [102, 97, 108, 115, 101], [111, 107], [97, 110, 100], [111, 114], [110, 111, 116], [100, 105, 118], [109, 111, 100], [101, 120, 105, 115, 116, 115], [102, 111, 114, 97, 108, 108], [97, 98, 115], [97, 114, 98], [100, 111, 109, 97, 105, 110], [114, 97, 110, 103, 101], [112, 111, 119], [116, 121, 112, 101], [115, 116, 114], [99, 104, 97, 114], [99, 111, 100, 101], [109, 105, 110], [109, 97, 120], [114, 101, 118], [110, 101, 119, 97, 116], [114, 97, 110, 100, 111, 109]]
def wdS : List Nat := [0, 4, 9, 14, 17, 20, 23, 27, 30, 35, 42, 47, 53, 56, 60, 63, 69, 76, 81, 90, 97, 103, 110, 115, 123, 128, 133, 139, 145, 148, 153, 159, 162, 166, 169, 173, 177, 181, 188, 195, 199, 203, 210, 216, 220, 225, 229, 234, 239, 243, 247, 251, 257, 264]
set_option maxRecDepth 20000 in
theorem wd_next : ∀ w, w < 53 → wdS.getD (w + 1) 0 = wdS.getD w 0 + (wdL.getD w []).length + 1 := by decide +kernel
set_option maxRecDepth 20000 in
theorem wd_lt : ∀ w, w < 53 → wdS.getD w 0 + (wdL.getD w []).length < 264 := by decide +kernel
set_option maxRecDepth 20000 in
theorem wd_at : ∀ w, w < 53 → ∀ i, i < (wdL.getD w []).length → mWords.getD (wdS.getD w 0 + i) 0 = (wdL.getD w []).getD i 0 ∧ ¬ mWords.getD (wdS.getD w 0 + i) 0 = 32 := by decide +kernel
set_option maxRecDepth 20000 in
theorem wd_end : ∀ w, w < 53 → mWords.getD (wdS.getD w 0 + (wdL.getD w []).length) 0 = 32 := by decide +kernel
/-- the bytes from a to before b -/
def seg (T : Nat → Int32) (a b : Nat) : List Int32 := (List.range (b - a)).map (fun i => T (a + i))
theorem seg_len (T : Nat → Int32) (a b : Nat) : (seg T a b).length = b - a := by unfold seg; rw [List.length_map, List.length_range]
theorem seg_at {T : Nat → Int32} {a b i : Nat} (h : i < b - a) : (seg T a b).getD i 0 = T (a + i) := by
  unfold seg
  rw [List.getD_eq_getElem?_getD, List.getElem?_map, List.getElem?_range h]
  rfl
theorem seg_eq {T : Nat → Int32} {a b : Nat} {l : List Int32} (h1 : l.length = b - a) (h2 : ∀ i, i < b - a → l.getD i 0 = T (a + i)) : l = seg T a b := by
  apply List.ext_getElem
  · rw [h1, seg_len]
  · intro i hi hj
    have e := h2 i (by omega)
    rw [List.getD_eq_getElem?_getD, List.getElem?_eq_getElem hi] at e
    have e2 := seg_at (T := T) (a := a) (b := b) (i := i) (by omega)
    rw [List.getD_eq_getElem?_getD, List.getElem?_eq_getElem hj] at e2
    exact e.trans e2.symm
/-- which word it is, from the w-th on: -1 for none -/
def wordF (s : List Int32) : Nat → Nat → Int32
  | 0, _ => -1
  | f + 1, w => if wdL.getD w [] = s then nI w else wordF s f (w + 1)
def wordI (s : List Int32) : Int32 := wordF s 53 0
section WORDAT
variable {σ : MS} {a b : Nat}
theorem wordAt_cmp (hW : σ.2.2 1 = mT mWords 264) (hab : a ≤ b) (hb : b ≤ 32768) (hT : ∀ i, a ≤ i → i < b → ¬ σ.2.2 3 i = 32) {w : Nat} (hw : w < 53) (Q : Int32 × MS → Prop) (L : Nat → Int32) (h2 : L 2 = nI b) (h3 : L 3 = nI w) (h4 : L 4 = nI (wdS.getD w 0)) :
    (∀ M : Nat → Int32, (∀ j, j ≠ 5 → j ≠ 6 → M j = L j) → wdL.getD w [] = seg (σ.2.2 3) a b → Q (nI w, σ)) → (∀ M : Nat → Int32, (∀ j, j ≠ 5 → j ≠ 6 → M j = L j) → ¬ wdL.getD w [] = seg (σ.2.2 3) a b → Tm (fun k => x_wordAt k 4 M σ) Q) →
    ∀ (m i : Nat) (M : Nat → Int32), m + i = b - a → i ≤ (wdL.getD w []).length → (∀ j, j < i → (wdL.getD w []).getD j 0 = σ.2.2 3 (a + j)) → (∀ j, j ≠ 5 → j ≠ 6 → M j = L j) → M 5 = nI (a + i) → M 6 = nI (wdS.getD w 0 + i) → Tm (fun k => x_wordAt k 2 M σ) Q := by
  intro yes no m
  have hlt := wd_lt w hw
  have val : ∀ i, i ≤ (wdL.getD w []).length → σ.2.2 1 (wdS.getD w 0 + i) = mWords.getD (wdS.getD w 0 + i) 0 := fun i hi => by
    rw [hW]; exact if_pos (by omega)
  -- behind the comparing
  have three : ∀ (i : Nat) (M : Nat → Int32), i ≤ b - a → i ≤ (wdL.getD w []).length → (∀ j, j < i → (wdL.getD w []).getD j 0 = σ.2.2 3 (a + j)) → (i = b - a ∨ ¬ σ.2.2 1 (wdS.getD w 0 + i) = σ.2.2 3 (a + i)) → (∀ j, j ≠ 5 → j ≠ 6 → M j = L j) → M 5 = nI (a + i) → M 6 = nI (wdS.getD w 0 + i) → Tm (fun k => x_wordAt k 3 M σ) Q := by
    intro i M hi hil heq hstop hM h5 h6
    refine Tm_suc (fun k => by rw [x_wordAt]) ?_
    rw [h5, show M 2 = nI b from by rw [hM 2 (by decide) (by decide)]; exact h2]
    refine Tm_ite (fun c => ?_) (fun c => ?_)
    · rw [n_eq (by omega) (by omega)] at c
      rw [h6]
      refine Tm_chk (n_in (by omega) (by omega)) ?_
      rw [n_cl (by omega), val i hil]
      refine Tm_ite (fun c2 => ?_) (fun c2 => ?_)
      · have hl : (wdL.getD w []).length = i := by
          by_cases h : i < (wdL.getD w []).length
          · exact absurd c2 (wd_at w hw i h).2
          · omega
        rw [show M 3 = nI w from by rw [hM 3 (by decide) (by decide)]; exact h3]
        exact Tm_some (yes M hM (seg_eq (by omega) (fun j hj => heq j (by omega))))
      · refine no M hM (fun e => c2 ?_)
        have := congrArg List.length e
        rw [seg_len] at this
        rw [show i = (wdL.getD w []).length by omega]
        exact wd_end w hw
    · rw [n_eq (by omega) (by omega)] at c
      refine no M hM (fun e => ?_)
      rcases hstop with h | h
      · omega
      · have := congrArg List.length e
        rw [seg_len] at this
        apply h
        rw [val i hil, (wd_at w hw i (by omega)).1, e]
        exact seg_at (by omega)
  induction m with
  | zero =>
    intro i M hm hil heq hM h5 h6
    refine Tm_suc (fun k => by rw [x_wordAt]) ?_
    rw [h5, show M 2 = nI b from by rw [hM 2 (by decide) (by decide)]; exact h2]
    refine Tm_ite (fun c => three i M (by omega) hil heq (Or.inl (by omega)) hM h5 h6) (fun c => ?_)
    rw [n_le (by omega) (by omega)] at c; omega
  | succ m ih =>
    intro i M hm hil heq hM h5 h6
    refine Tm_suc (fun k => by rw [x_wordAt]) ?_
    rw [h5, show M 2 = nI b from by rw [hM 2 (by decide) (by decide)]; exact h2]
    refine Tm_ite (fun c => ?_) (fun c => ?_)
    · rw [n_le (by omega) (by omega)] at c; omega
    rw [h6]
    refine Tm_chk (n_in (by omega) (by omega)) ?_
    refine Tm_chk (n_in (by omega) (by omega)) ?_
    rw [n_cl (by omega), n_cl (by omega)]
    refine Tm_ite (fun c2 => ?_) (fun c2 => three i M (by omega) hil heq (Or.inr c2) hM h5 h6)
    rw [n_add1, n_add1]
    have hil2 : i < (wdL.getD w []).length := by
      by_cases h : i < (wdL.getD w []).length
      · exact h
      · exfalso
        obtain rfl : i = (wdL.getD w []).length := by omega
        rw [val _ (Nat.le_refl _), wd_end w hw] at c2
        exact hT _ (by omega) (by omega) c2.symm
    refine ih (i + 1) _ (by omega) hil2 (fun j hj => ?_) (fun j a1 a2 => ?_) ?_ ?_
    · by_cases e : j = i
      · rw [e, ← (wd_at w hw i hil2).1, ← val i hil]; exact c2
      · exact heq j (by omega)
    · rw [upd_other a2, upd_other a1]; exact hM j a1 a2
    · rw [upd_other (by decide), upd_same]; rfl
    · rw [upd_same]; rfl
/-- on to the next word -/
theorem wordAt_next (hW : σ.2.2 1 = mT mWords 264) {w : Nat} (hw : w < 53) (Q : Int32 × MS → Prop) (L : Nat → Int32) (h3 : L 3 = nI w) : (∀ M : Nat → Int32, (∀ j, j ≠ 3 → j ≠ 4 → M j = L j) → M 3 = nI (w + 1) → M 4 = nI (wdS.getD (w + 1) 0) → Tm (fun k => x_wordAt k 1 M σ) Q) → ∀ (m i : Nat) (M : Nat → Int32), m + i = (wdL.getD w []).length → (∀ j, j ≠ 4 → M j = L j) → M 4 = nI (wdS.getD w 0 + i) → Tm (fun k => x_wordAt k 4 M σ) Q := by
  intro on m
  have hlt := wd_lt w hw
  have val : ∀ i, i ≤ (wdL.getD w []).length → σ.2.2 1 (wdS.getD w 0 + i) = mWords.getD (wdS.getD w 0 + i) 0 := fun i hi => by
    rw [hW]; exact if_pos (by omega)
  induction m with
  | zero =>
    intro i M hm hM h4
    obtain rfl : i = (wdL.getD w []).length := by omega
    refine Tm_suc (fun k => by rw [x_wordAt]) ?_
    rw [h4]
    refine Tm_chk (n_in (by omega) (by omega)) ?_
    rw [n_cl (by omega), val _ (Nat.le_refl _)]
    refine Tm_ite (fun _ => ?_) (fun c => absurd (wd_end w hw) c)
    refine Tm_suc (fun k => by rw [x_wordAt]) ?_
    rw [h4, n_add1, show M 3 = nI w from by rw [hM 3 (by decide)]; exact h3]
    have e3 : upd M 4 (nI (wdS.getD w 0 + (wdL.getD w []).length + 1)) 3 = nI w := by rw [upd_other (by decide), hM 3 (by decide)]; exact h3
    refine on _ (fun j a1 a2 => by rw [upd_other a1, upd_other a2]; exact hM j a2) (by rw [upd_same]; exact n_add1 w) (by rw [upd_other (by decide), upd_same, wd_next w hw])
  | succ m ih =>
    intro i M hm hM h4
    refine Tm_suc (fun k => by rw [x_wordAt]) ?_
    rw [h4]
    refine Tm_chk (n_in (by omega) (by omega)) ?_
    rw [n_cl (by omega), val i (by omega)]
    refine Tm_ite (fun c => absurd c (wd_at w hw i (by omega)).2) (fun _ => ?_)
    rw [n_add1]
    exact ih (i + 1) _ (by omega) (fun j hj => by rw [upd_other hj]; exact hM j hj) (by rw [upd_same]; rfl)
theorem s_wordAt (hW : σ.2.2 1 = mT mWords 264) (hab : a ≤ b) (hb : b ≤ 32768) (hT : ∀ i, a ≤ i → i < b → ¬ σ.2.2 3 i = 32) (L : Nat → Int32) (h1 : L 1 = nI a) (h2 : L 2 = nI b) : Tm (fun k => x_wordAt k 0 L σ) (fun r => r = (wordI (seg (σ.2.2 3) a b), σ)) := by
  have loop : ∀ (m w : Nat) (M : Nat → Int32), m + w = 53 → M 1 = nI a → M 2 = nI b → M 3 = nI w → M 4 = nI (wdS.getD w 0) → Tm (fun k => x_wordAt k 1 M σ) (fun r => r = (wordF (seg (σ.2.2 3) a b) m w, σ)) := by
    intro m
    induction m with
    | zero =>
      intro w M hm h1 h2 h3 h4
      obtain rfl : w = 53 := by omega
      refine Tm_suc (fun k => by rw [x_wordAt]) ?_
      refine Tm_ite (fun _ => ?_) (fun c => absurd (by rw [h4]; decide) c)
      refine Tm_suc (fun k => by rw [x_wordAt]) ?_
      exact Tm_some rfl
    | succ m ih =>
      intro w M hm h1 h2 h3 h4
      have hw : w < 53 := by omega
      have hlt := wd_lt w hw
      refine Tm_suc (fun k => by rw [x_wordAt]) ?_
      refine Tm_ite (fun c => ?_) (fun _ => ?_)
      · rw [h4, show (264 : Int32) = nI 264 from rfl, n_le (by omega) (by omega)] at c; omega
      rw [h1, h4]
      have e : wordF (seg (σ.2.2 3) a b) (m + 1) w = if wdL.getD w [] = seg (σ.2.2 3) a b then nI w else wordF (seg (σ.2.2 3) a b) m (w + 1) := rfl
      refine wordAt_cmp hW hab hb hT hw _ M h2 h3 h4 (fun N hN h => by rw [e, if_pos h]) (fun N hN h => ?_) (b - a) 0 _ (by omega) (Nat.zero_le _) (fun j hj => absurd hj (by omega)) (fun j a1 a2 => by rw [upd_other a2, upd_other a1]) (by rw [upd_other (by decide), upd_same]; rfl) (by rw [upd_same]; rfl)
      rw [e, if_neg h]
      refine wordAt_next hW hw _ N (by rw [hN 3 (by decide) (by decide)]; exact h3) (fun K hK k3 k4 => ?_) (wdL.getD w []).length 0 N (by omega) (fun _ _ => rfl) (by rw [hN 4 (by decide) (by decide)]; exact h4)
      exact ih (w + 1) K (by omega) (by rw [hK 1 (by decide) (by decide), hN 1 (by decide) (by decide)]; exact h1) (by rw [hK 2 (by decide) (by decide), hN 2 (by decide) (by decide)]; exact h2) k3 k4
  refine Tm_suc (fun k => by rw [x_wordAt]) ?_
  exact loop 53 0 _ rfl (by rw [upd_other (by decide), upd_other (by decide)]; exact h1) (by rw [upd_other (by decide), upd_other (by decide)]; exact h2) (by rw [upd_other (by decide), upd_same]; rfl) (by rw [upd_same]; rfl)
end WORDAT
