/-! Tokens: where they end, what they are. -/
def two61 (x : Int32) : Bool := decide (x = 1 ∨ x = 5 ∨ x = 16 ∨ x = 18 ∨ x = 20 ∨ x = 22)
theorem sign_two {c d : Int32} (h : signF c d = 1 ∨ signF c d = 5 ∨ signF c d = 16 ∨ signF c d = 18 ∨ signF c d = 20 ∨ signF c d = 22) : ¬ d = 0 := by
  intro e
  subst e
  have z1 : ¬ (0 : Int32) = 61 := by decide
  have z2 : ¬ (0 : Int32) = 42 := by decide
  have z3 : ¬ (0 : Int32) = 46 := by decide
  have key : two61 (signF c 0) = false := by
    unfold signF
    by_cases h35 : c = 35
    · rw [if_pos h35]; decide
    rw [if_neg h35]
    by_cases h40 : c = 40
    · rw [if_pos h40]; decide
    rw [if_neg h40]
    by_cases h41 : c = 41
    · rw [if_pos h41]; decide
    rw [if_neg h41]
    by_cases h42 : c = 42
    · rw [if_pos h42, if_neg z2]; decide
    rw [if_neg h42]
    by_cases h43 : c = 43
    · rw [if_pos h43]; decide
    rw [if_neg h43]
    by_cases h44 : c = 44
    · rw [if_pos h44]; decide
    rw [if_neg h44]
    by_cases h45 : c = 45
    · rw [if_pos h45]; decide
    rw [if_neg h45]
    by_cases h46 : c = 46
    · rw [if_pos h46, if_neg z3]; decide
    rw [if_neg h46]
    by_cases h47 : c = 47
    · rw [if_pos h47, if_neg z1]; decide
    rw [if_neg h47]
    by_cases h58 : c = 58
    · rw [if_pos h58, if_neg z1]; decide
    rw [if_neg h58]
    by_cases h59 : c = 59
    · rw [if_pos h59]; decide
    rw [if_neg h59]
    by_cases h60 : c = 60
    · rw [if_pos h60, if_neg z1]; decide
    rw [if_neg h60]
    by_cases h61 : c = 61
    · rw [if_pos h61]; decide
    rw [if_neg h61]
    by_cases h62 : c = 62
    · rw [if_pos h62, if_neg z1]; decide
    rw [if_neg h62]
    by_cases h91 : c = 91
    · rw [if_pos h91]; decide
    rw [if_neg h91]
    by_cases h93 : c = 93
    · rw [if_pos h93]; decide
    rw [if_neg h93]
    by_cases h123 : c = 123
    · rw [if_pos h123]; decide
    rw [if_neg h123]
    by_cases h124 : c = 124
    · rw [if_pos h124]; decide
    rw [if_neg h124]
    by_cases h125 : c = 125
    · rw [if_pos h125]; decide
    rw [if_neg h125]
    decide
  have : two61 (signF c 0) = true := decide_eq_true h
  rw [key] at this
  exact absurd this (by decide)
theorem sign_val (c d : Int32) : ∃ v : Nat, v ≤ 24 ∧ signF c d = nI v := by
  unfold signF
  by_cases h35 : c = 35
  · rw [if_pos h35]; exact ⟨23, by decide, rfl⟩
  rw [if_neg h35]
  by_cases h40 : c = 40
  · rw [if_pos h40]; exact ⟨6, by decide, rfl⟩
  rw [if_neg h40]
  by_cases h41 : c = 41
  · rw [if_pos h41]; exact ⟨7, by decide, rfl⟩
  rw [if_neg h41]
  by_cases h42 : c = 42
  · rw [if_pos h42]
    by_cases h : d = 42
    · rw [if_pos h]; exact ⟨5, by decide, rfl⟩
    · rw [if_neg h]; exact ⟨4, by decide, rfl⟩
  rw [if_neg h42]
  by_cases h43 : c = 43
  · rw [if_pos h43]; exact ⟨2, by decide, rfl⟩
  rw [if_neg h43]
  by_cases h44 : c = 44
  · rw [if_pos h44]; exact ⟨12, by decide, rfl⟩
  rw [if_neg h44]
  by_cases h45 : c = 45
  · rw [if_pos h45]; exact ⟨3, by decide, rfl⟩
  rw [if_neg h45]
  by_cases h46 : c = 46
  · rw [if_pos h46]
    by_cases h : d = 46
    · rw [if_pos h]; exact ⟨16, by decide, rfl⟩
    · rw [if_neg h]; exact ⟨0, by decide, rfl⟩
  rw [if_neg h46]
  by_cases h47 : c = 47
  · rw [if_pos h47]
    by_cases h : d = 61
    · rw [if_pos h]; exact ⟨18, by decide, rfl⟩
    · rw [if_neg h]; exact ⟨24, by decide, rfl⟩
  rw [if_neg h47]
  by_cases h58 : c = 58
  · rw [if_pos h58]
    by_cases h : d = 61
    · rw [if_pos h]; exact ⟨1, by decide, rfl⟩
    · rw [if_neg h]; exact ⟨14, by decide, rfl⟩
  rw [if_neg h58]
  by_cases h59 : c = 59
  · rw [if_pos h59]; exact ⟨13, by decide, rfl⟩
  rw [if_neg h59]
  by_cases h60 : c = 60
  · rw [if_pos h60]
    by_cases h : d = 61
    · rw [if_pos h]; exact ⟨20, by decide, rfl⟩
    · rw [if_neg h]; exact ⟨19, by decide, rfl⟩
  rw [if_neg h60]
  by_cases h61 : c = 61
  · rw [if_pos h61]; exact ⟨17, by decide, rfl⟩
  rw [if_neg h61]
  by_cases h62 : c = 62
  · rw [if_pos h62]
    by_cases h : d = 61
    · rw [if_pos h]; exact ⟨22, by decide, rfl⟩
    · rw [if_neg h]; exact ⟨21, by decide, rfl⟩
  rw [if_neg h62]
  by_cases h91 : c = 91
  · rw [if_pos h91]; exact ⟨10, by decide, rfl⟩
  rw [if_neg h91]
  by_cases h93 : c = 93
  · rw [if_pos h93]; exact ⟨11, by decide, rfl⟩
  rw [if_neg h93]
  by_cases h123 : c = 123
  · rw [if_pos h123]; exact ⟨8, by decide, rfl⟩
  rw [if_neg h123]
  by_cases h124 : c = 124
  · rw [if_pos h124]; exact ⟨15, by decide, rfl⟩
  rw [if_neg h124]
  by_cases h125 : c = 125
  · rw [if_pos h125]; exact ⟨9, by decide, rfl⟩
  rw [if_neg h125]
  exact ⟨0, by decide, rfl⟩
/-- what a token can be: t.1 its kind, t.2.1 which sign or word, t.2.2 its end -/
theorem tok_form (w : Int32) (T : Nat → Int32) (n q : Nat) (hq : q ≤ n) : q ≤ (tokM w T n q).2.2 ∧ (tokM w T n q).2.2 ≤ n ∧
    ((q = n ∧ (tokM w T n q).1 = 0 ∧ (tokM w T n q).2.2 = n) ∨ (q < n ∧ q < (tokM w T n q).2.2 ∧ ((tokM w T n q).1 = 1 ∨ (tokM w T n q).1 = 2 ∨ (tokM w T n q).1 = 3 ∨ ((tokM w T n q).1 = 4 ∧ ∃ v : Nat, 1 ≤ v ∧ v ≤ 24 ∧ (tokM w T n q).2.1 = nI v) ∨ ((tokM w T n q).1 = 5 ∧ ∃ v : Nat, v < 53 ∧ (tokM w T n q).2.1 = nI v) ∨ (tokM w T n q).1 = 6))) := by
  unfold tokM
  by_cases c : q = n
  · rw [if_pos c]
    exact ⟨Nat.le_refl _, hq, Or.inl ⟨c, rfl, c⟩⟩
  rw [if_neg c]
  have hlt : q < n := by omega
  by_cases c1 : isL (rB T n q)
  · rw [if_pos c1]
    have h1 := nameE_le T n n (q + 1) (by omega)
    have h2 := nameE_ge T n n (q + 1)
    have e1 : nameE T n (n + 1) q = nameE T n n (q + 1) := by rw [nameE_step, if_pos (Or.inl c1)]
    rw [e1]
    refine ⟨by show q ≤ nameE T n n (q + 1); omega, h1, Or.inr ⟨hlt, by show q < nameE T n n (q + 1); omega, ?_⟩⟩
    dsimp only
    by_cases c2 : nameE T n n (q + 1) - q ≤ 16
    · rw [if_pos c2]
      rcases wordF_val (seg T q (nameE T n n (q + 1))) 53 0 rfl with h | ⟨v, hv, h, _⟩
      · exact Or.inl (if_pos h)
      · refine Or.inr (Or.inr (Or.inr (Or.inr (Or.inl ⟨if_neg ?_, v, hv, h⟩))))
        intro h'
        have := h.symm.trans h'
        revert this
        have : ∀ v : Nat, v < 53 → ¬ nI v = -1 := by decide +kernel
        exact this v hv
    · rw [if_neg c2]
      exact Or.inr (Or.inr (Or.inr (Or.inr (Or.inr rfl))))
  rw [if_neg c1]
  by_cases c2 : isD (rB T n q)
  · rw [if_pos c2]
    have h1 := digE_le T n n (q + 1) (by omega)
    have h2 := digE_ge T n n (q + 1)
    have e1 : digE T n (n + 1) q = digE T n n (q + 1) := by rw [digE_step, if_pos c2]
    rw [e1]
    refine ⟨by show q ≤ digE T n n (q + 1); omega, h1, Or.inr ⟨hlt, by show q < digE T n n (q + 1); omega, ?_⟩⟩
    dsimp only
    split
    · exact Or.inr (Or.inl rfl)
    · exact Or.inr (Or.inr (Or.inr (Or.inr (Or.inr rfl))))
  rw [if_neg c2]
  by_cases c3 : rB T n q = 34
  · rw [if_pos c3]
    have h1 := strE_le T n (n + 1) (q + 1) (by omega)
    have h2 := strE_ge T n (n + 1) (q + 1)
    refine ⟨?_, ?_, Or.inr ⟨hlt, ?_, ?_⟩⟩
    · dsimp only; omega
    · dsimp only; split <;> omega
    · dsimp only; omega
    · dsimp only
      split
      · exact Or.inr (Or.inr (Or.inl rfl))
      · exact Or.inr (Or.inr (Or.inr (Or.inr (Or.inr rfl))))
  rw [if_neg c3]
  refine ⟨by dsimp only; omega, ?_, Or.inr ⟨hlt, ?_, ?_⟩⟩
  · dsimp only
    split
    · rename_i h
      have := sign_two h
      by_cases h3 : q + 1 < n
      · omega
      · exact absurd (rB_out (by omega)) this
    · omega
  · dsimp only; split <;> omega
  · dsimp only
    obtain ⟨v, hv, h⟩ := sign_val (rB T n q) (rB T n (q + 1))
    by_cases c4 : signF (rB T n q) (rB T n (q + 1)) = 0
    · rw [if_pos c4]; exact Or.inr (Or.inr (Or.inr (Or.inr (Or.inr rfl))))
    · rw [if_neg c4]
      refine Or.inr (Or.inr (Or.inr (Or.inl ⟨rfl, v, ?_, hv, h⟩)))
      cases v with
      | zero => exact absurd h c4
      | succ v => omega
/-- what was before tells nothing of a token's kind and end, and nothing of a sign or word -/
theorem tok_w (w : Int32) (T : Nat → Int32) (n q : Nat) : (tokM w T n q).1 = (tokM 0 T n q).1 ∧ (tokM w T n q).2.2 = (tokM 0 T n q).2.2 ∧ ((tokM 0 T n q).1 = 4 ∨ (tokM 0 T n q).1 = 5 → (tokM w T n q).2.1 = (tokM 0 T n q).2.1) := by
  have z4 : ¬ ((0 : Int32) = 4 ∨ (0 : Int32) = 5) := by decide
  have z5 : ¬ ((2 : Int32) = 4 ∨ (2 : Int32) = 5) := by decide
  have z6 : ¬ ((6 : Int32) = 4 ∨ (6 : Int32) = 5) := by decide
  have z7 : ¬ ((3 : Int32) = 4 ∨ (3 : Int32) = 5) := by decide
  unfold tokM
  by_cases c : q = n
  · rw [if_pos c, if_pos c]; exact ⟨rfl, rfl, fun h => absurd h z4⟩
  rw [if_neg c, if_neg c]
  by_cases c1 : isL (rB T n q)
  · rw [if_pos c1, if_pos c1]; exact ⟨rfl, rfl, fun _ => rfl⟩
  rw [if_neg c1, if_neg c1]
  by_cases c2 : isD (rB T n q)
  · rw [if_pos c2, if_pos c2]
    refine ⟨rfl, rfl, fun h => absurd h ?_⟩
    dsimp only
    split
    · exact z5
    · exact z6
  rw [if_neg c2, if_neg c2]
  by_cases c3 : rB T n q = 34
  · rw [if_pos c3, if_pos c3]
    refine ⟨rfl, rfl, fun h => absurd h ?_⟩
    dsimp only
    split
    · exact z7
    · exact z6
  rw [if_neg c3, if_neg c3]
  exact ⟨rfl, rfl, fun _ => rfl⟩
theorem kv_4 : ¬ (4 : Int32) = 0 ∧ ¬ (4 : Int32) = 1 ∧ ¬ (4 : Int32) = 2 ∧ ¬ (4 : Int32) = 3 := by decide
theorem kv_5 : ¬ (5 : Int32) = 0 ∧ ¬ (5 : Int32) = 1 ∧ ¬ (5 : Int32) = 2 ∧ ¬ (5 : Int32) = 3 ∧ ¬ (5 : Int32) = 4 := by decide
theorem tkc_4 {v : Nat} (hv : v ≤ 24) : tkc 4 (nI v) = v := by
  unfold tkc
  rw [if_neg kv_4.1, if_neg kv_4.2.1, if_neg kv_4.2.2.1, if_neg kv_4.2.2.2, if_pos rfl, n_cl (by omega)]
theorem tkc_5 {v : Nat} (hv : v < 53) : tkc 5 (nI v) = 32 + v := by
  unfold tkc
  rw [if_neg kv_5.1, if_neg kv_5.2.1, if_neg kv_5.2.2.1, if_neg kv_5.2.2.2.1, if_neg kv_5.2.2.2.2, if_pos rfl, n_cl (by omega)]
/-- the kinds as numbers -/
theorem tk_cases (T : Nat → Int32) (n q : Nat) (hq : q ≤ n) :
    (q = n ∧ (tokM 0 T n q).1 = 0 ∧ tkK T n q = 25) ∨ (q < n ∧ (((tokM 0 T n q).1 = 1 ∧ tkK T n q = 26) ∨ ((tokM 0 T n q).1 = 2 ∧ tkK T n q = 27) ∨ ((tokM 0 T n q).1 = 3 ∧ tkK T n q = 28) ∨ ((tokM 0 T n q).1 = 4 ∧ 1 ≤ tkK T n q ∧ tkK T n q ≤ 24 ∧ (tokM 0 T n q).2.1 = nI (tkK T n q)) ∨ ((tokM 0 T n q).1 = 5 ∧ 32 ≤ tkK T n q ∧ tkK T n q < 85 ∧ (tokM 0 T n q).2.1 = nI (tkK T n q - 32)) ∨ ((tokM 0 T n q).1 = 6 ∧ tkK T n q = 0))) := by
  obtain ⟨_, _, h⟩ := tok_form 0 T n q hq
  rcases h with ⟨h1, h2, _⟩ | ⟨h1, _, h2⟩
  · exact Or.inl ⟨h1, h2, by unfold tkK; rw [h2]; rfl⟩
  · refine Or.inr ⟨h1, ?_⟩
    rcases h2 with h | h | h | ⟨h, v, v1, v2, h3⟩ | ⟨h, v, v2, h3⟩ | h
    · exact Or.inl ⟨h, by unfold tkK; rw [h]; rfl⟩
    · exact Or.inr (Or.inl ⟨h, by unfold tkK; rw [h]; rfl⟩)
    · exact Or.inr (Or.inr (Or.inl ⟨h, by unfold tkK; rw [h]; rfl⟩))
    · have e : tkK T n q = v := by unfold tkK; rw [h, h3]; exact tkc_4 v2
      exact Or.inr (Or.inr (Or.inr (Or.inl ⟨h, by omega, by omega, by rw [e]; exact h3⟩)))
    · have e : tkK T n q = 32 + v := by unfold tkK; rw [h, h3]; exact tkc_5 v2
      exact Or.inr (Or.inr (Or.inr (Or.inr (Or.inl ⟨h, by omega, by omega, by rw [e, show 32 + v - 32 = v by omega]; exact h3⟩))))
    · exact Or.inr (Or.inr (Or.inr (Or.inr (Or.inr ⟨h, by unfold tkK; rw [h]; rfl⟩))))
theorem tkE_b (T : Nat → Int32) (n q : Nat) (hq : q ≤ n) : q ≤ tkE T n q ∧ tkE T n q ≤ n ∧ (¬ tkK T n q = 25 → q < tkE T n q) := by
  obtain ⟨h1, h2, h⟩ := tok_form 0 T n q hq
  refine ⟨h1, h2, fun h3 => ?_⟩
  rcases h with ⟨_, h4, _⟩ | ⟨_, h4, _⟩
  · exact absurd (by unfold tkK; rw [h4]; rfl) h3
  · exact h4
theorem tkN_b (T : Nat → Int32) (n q : Nat) (hq : q ≤ n) : q ≤ tkN T n q ∧ tkN T n q ≤ n ∧ tkE T n q ≤ tkN T n q ∧ (¬ tkK T n q = 25 → q < tkN T n q) := by
  have h := tkE_b T n q hq
  have h1 := skE_ge T n (n + 1) (tkE T n q)
  have h2 := skE_le T n (n + 1) (tkE T n q) h.2.1
  have h3 : tkE T n q ≤ tkN T n q := h1
  exact ⟨by omega, h2, h1, fun h4 => by have := h.2.2 h4; omega⟩
/-- the token that the reference stands at -/
def mCur (T : Nat → Int32) (n : Nat) (σ : MS) (q : Nat) : Prop := q ≤ n ∧ σ.1 8 = nI q ∧ σ.1 5 = nI (tkE T n q) ∧ σ.1 9 = nI (tkE T n q) ∧ σ.1 6 = (tokM 0 T n q).1 ∧ ∃ w : Int32, σ.1 7 = (tokM w T n q).2.1
section CUR
variable {T : Nat → Int32} {n q : Nat} {σ : MS}
theorem cur_sign (h : mCur T n σ q) {s : Nat} (h1 : 1 ≤ s) (h2 : s ≤ 24) : (σ.1 6 = 4 ∧ σ.1 7 = nI s) ↔ tkK T n q = s := by
  obtain ⟨hq, _, _, _, h6, w, h7⟩ := h
  have hw := tok_w w T n q
  rw [h6]
  rcases tk_cases T n q hq with ⟨_, a, b⟩ | ⟨_, ⟨a, b⟩ | ⟨a, b⟩ | ⟨a, b⟩ | ⟨a, b1, b2, b3⟩ | ⟨a, b1, b2, _⟩ | ⟨a, b⟩⟩
  · rw [a, b]; exact ⟨fun h => absurd h.1 (by decide), fun h => by omega⟩
  · rw [a, b]; exact ⟨fun h => absurd h.1 (by decide), fun h => by omega⟩
  · rw [a, b]; exact ⟨fun h => absurd h.1 (by decide), fun h => by omega⟩
  · rw [a, b]; exact ⟨fun h => absurd h.1 (by decide), fun h => by omega⟩
  · rw [h7, hw.2.2 (Or.inl a), b3, n_eq (by omega) (by omega), a]; exact ⟨fun h => h.2, fun h => ⟨rfl, h⟩⟩
  · rw [a]; exact ⟨fun h => absurd h.1 (by decide), fun h => by omega⟩
  · rw [a, b]; exact ⟨fun h => absurd h.1 (by decide), fun h => by omega⟩
theorem cur_word (h : mCur T n σ q) {s : Nat} (h1 : s < 53) : (σ.1 6 = 5 ∧ σ.1 7 = nI s) ↔ tkK T n q = 32 + s := by
  obtain ⟨hq, _, _, _, h6, w, h7⟩ := h
  have hw := tok_w w T n q
  rw [h6]
  rcases tk_cases T n q hq with ⟨_, a, b⟩ | ⟨_, ⟨a, b⟩ | ⟨a, b⟩ | ⟨a, b⟩ | ⟨a, b1, b2, b3⟩ | ⟨a, b1, b2, b3⟩ | ⟨a, b⟩⟩
  · rw [a, b]; exact ⟨fun h => absurd h.1 (by decide), fun h => by omega⟩
  · rw [a, b]; exact ⟨fun h => absurd h.1 (by decide), fun h => by omega⟩
  · rw [a, b]; exact ⟨fun h => absurd h.1 (by decide), fun h => by omega⟩
  · rw [a, b]; exact ⟨fun h => absurd h.1 (by decide), fun h => by omega⟩
  · rw [a]; exact ⟨fun h => absurd h.1 (by decide), fun h => by omega⟩
  · rw [h7, hw.2.2 (Or.inr a), b3, n_eq (by omega) (by omega), a]; exact ⟨fun h => by omega, fun h => ⟨rfl, by omega⟩⟩
  · rw [a, b]; exact ⟨fun h => absurd h.1 (by decide), fun h => by omega⟩
/-- other kinds, by their numbers -/
theorem cur_kind (h : mCur T n σ q) : (σ.1 6 = 0 ↔ tkK T n q = 25) ∧ (σ.1 6 = 1 ↔ tkK T n q = 26) ∧ (σ.1 6 = 2 ↔ tkK T n q = 27) ∧ (σ.1 6 = 3 ↔ tkK T n q = 28) ∧ (σ.1 6 = 4 ↔ 1 ≤ tkK T n q ∧ tkK T n q ≤ 24) ∧ (σ.1 6 = 5 ↔ 32 ≤ tkK T n q) := by
  obtain ⟨hq, _, _, _, h6, w, h7⟩ := h
  rw [h6]
  rcases tk_cases T n q hq with ⟨_, a, b⟩ | ⟨_, ⟨a, b⟩ | ⟨a, b⟩ | ⟨a, b⟩ | ⟨a, b1, b2, b3⟩ | ⟨a, b1, b2, b3⟩ | ⟨a, b⟩⟩ <;> rw [a]
  · rw [b]; decide
  · rw [b]; decide
  · rw [b]; decide
  · rw [b]; decide
  · exact ⟨⟨fun h => absurd h (by decide), fun h => by omega⟩, ⟨fun h => absurd h (by decide), fun h => by omega⟩, ⟨fun h => absurd h (by decide), fun h => by omega⟩, ⟨fun h => absurd h (by decide), fun h => by omega⟩, ⟨fun _ => ⟨b1, b2⟩, fun _ => rfl⟩, ⟨fun h => absurd h (by decide), fun h => by omega⟩⟩
  · exact ⟨⟨fun h => absurd h (by decide), fun h => by omega⟩, ⟨fun h => absurd h (by decide), fun h => by omega⟩, ⟨fun h => absurd h (by decide), fun h => by omega⟩, ⟨fun h => absurd h (by decide), fun h => by omega⟩, ⟨fun h => absurd h (by decide), fun h => by omega⟩, ⟨fun _ => b1, fun _ => rfl⟩⟩
  · rw [b]; decide
/-- which sign or word it is -/
theorem cur_what (h : mCur T n σ q) : (1 ≤ tkK T n q → tkK T n q ≤ 24 → σ.1 7 = nI (tkK T n q)) ∧ (32 ≤ tkK T n q → σ.1 7 = nI (tkK T n q - 32)) ∧ tkK T n q < 85 := by
  obtain ⟨hq, _, _, _, h6, w, h7⟩ := h
  have hw := tok_w w T n q
  rw [h7]
  rcases tk_cases T n q hq with ⟨_, a, b⟩ | ⟨_, ⟨a, b⟩ | ⟨a, b⟩ | ⟨a, b⟩ | ⟨a, b1, b2, b3⟩ | ⟨a, b1, b2, b3⟩ | ⟨a, b⟩⟩
  · exact ⟨fun h => by omega, fun h => by omega, by omega⟩
  · exact ⟨fun h => by omega, fun h => by omega, by omega⟩
  · exact ⟨fun h => by omega, fun h => by omega, by omega⟩
  · exact ⟨fun h => by omega, fun h => by omega, by omega⟩
  · rw [hw.2.2 (Or.inl a)]; exact ⟨fun _ _ => b3, fun h => by omega, by omega⟩
  · rw [hw.2.2 (Or.inr a)]; exact ⟨fun _ h => by omega, fun _ => b3, by omega⟩
  · exact ⟨fun h => by omega, fun h => by omega, by omega⟩
end CUR
