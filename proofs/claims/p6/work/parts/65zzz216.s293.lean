/-! What is read of a text: its bytes alone, nothing behind them. -/
section CGR
variable {T T' : Nat → Int32} {n : Nat}
theorem rB_c (h : ∀ i, i < n → T i = T' i) : rB T n = rB T' n := by
  funext p
  unfold rB
  by_cases c : p < n
  · rw [if_pos c, if_pos c]; exact h p c
  · rw [if_neg c, if_neg c]
theorem seg_c (h : ∀ i, i < n → T i = T' i) {a b : Nat} (hb : b ≤ n) : seg T a b = seg T' a b := by
  unfold seg
  refine List.map_congr_left (fun i hi => ?_)
  have := List.mem_range.mp hi
  exact h (a + i) (by omega)
theorem nameE_c (h : ∀ i, i < n → T i = T' i) : ∀ f, nameE T n f = nameE T' n f := by
  intro f
  induction f with
  | zero => rfl
  | succ f ih =>
    funext p
    show (if isN (rB T n p) then nameE T n f (p + 1) else p) = (if isN (rB T' n p) then nameE T' n f (p + 1) else p)
    rw [rB_c h, ih]
theorem digE_c (h : ∀ i, i < n → T i = T' i) : ∀ f, digE T n f = digE T' n f := by
  intro f
  induction f with
  | zero => rfl
  | succ f ih =>
    funext p
    show (if isD (rB T n p) then digE T n f (p + 1) else p) = (if isD (rB T' n p) then digE T' n f (p + 1) else p)
    rw [rB_c h, ih]
theorem strE_c (h : ∀ i, i < n → T i = T' i) : ∀ f, strE T n f = strE T' n f := by
  intro f
  induction f with
  | zero => rfl
  | succ f ih =>
    funext p
    show (if p < n ∧ ¬ T p = 34 ∧ ¬ T p ≤ 31 then strE T n f (p + 1) else p) = (if p < n ∧ ¬ T' p = 34 ∧ ¬ T' p ≤ 31 then strE T' n f (p + 1) else p)
    rw [ih]
    by_cases c : p < n
    · rw [h p c]
    · rw [if_neg (fun z => c z.1), if_neg (fun z => c z.1)]
theorem noteE_c (h : ∀ i, i < n → T i = T' i) : ∀ f, noteE T n f = noteE T' n f := by
  intro f
  induction f with
  | zero => rfl
  | succ f ih =>
    funext p
    show (if p < n ∧ ¬ T p = 10 then noteE T n f (p + 1) else p) = (if p < n ∧ ¬ T' p = 10 then noteE T' n f (p + 1) else p)
    rw [ih]
    by_cases c : p < n
    · rw [h p c]
    · rw [if_neg (fun z => c z.1), if_neg (fun z => c z.1)]
theorem skE_c (h : ∀ i, i < n → T i = T' i) : ∀ f, skE T n f = skE T' n f := by
  intro f
  induction f with
  | zero => rfl
  | succ f ih =>
    funext p
    show (if p < n ∧ isB (T p) then skE T n f (p + 1) else if noteB T n p then skE T n f (noteE T n n p) else p) = (if p < n ∧ isB (T' p) then skE T' n f (p + 1) else if noteB T' n p then skE T' n f (noteE T' n n p) else p)
    have nb : noteB T n p = noteB T' n p := by unfold noteB; rw [rB_c h]
    have e : (p < n ∧ isB (T p)) = (p < n ∧ isB (T' p)) := by
      by_cases c : p < n
      · rw [h p c]
      · exact propext ⟨fun z => absurd z.1 c, fun z => absurd z.1 c⟩
    rw [ih, noteE_c h]
    simp only [nb, e]
theorem sk_c (h : ∀ i, i < n → T i = T' i) : sk T n = sk T' n := by
  funext p
  unfold sk
  rw [skE_c h]
theorem tokM_c (h : ∀ i, i < n → T i = T' i) (w : Int32) : tokM w T n = tokM w T' n := by
  funext q
  unfold tokM
  rw [rB_c h, nameE_c h, digE_c h, strE_c h]
  by_cases c0 : q = n
  · rw [if_pos c0, if_pos c0]
  rw [if_neg c0, if_neg c0]
  by_cases c1 : isL (rB T' n q)
  · rw [if_pos c1, if_pos c1]
    have hq : q < n := by
      by_cases c : q < n
      · exact c
      · rw [rB_out (by omega)] at c1; exact absurd c1 (by decide)
    rw [seg_c h (nameE_le T' n (n + 1) q (by omega))]
  rw [if_neg c1, if_neg c1]
  by_cases c2 : isD (rB T' n q)
  · rw [if_pos c2, if_pos c2]
  rw [if_neg c2, if_neg c2]
  by_cases c3 : rB T' n q = 34
  · rw [if_pos c3, if_pos c3]
    have e : (strE T' n (n + 1) (q + 1) < n ∧ T (strE T' n (n + 1) (q + 1)) = 34) = (strE T' n (n + 1) (q + 1) < n ∧ T' (strE T' n (n + 1) (q + 1)) = 34) := by
      by_cases c : strE T' n (n + 1) (q + 1) < n
      · rw [h _ c]
      · exact propext ⟨fun z => absurd z.1 c, fun z => absurd z.1 c⟩
    simp only [e]
  rw [if_neg c3, if_neg c3]
theorem tkK_c (h : ∀ i, i < n → T i = T' i) : tkK T n = tkK T' n := by
  funext q
  unfold tkK
  rw [tokM_c h]
theorem tkE_c (h : ∀ i, i < n → T i = T' i) : tkE T n = tkE T' n := by
  funext q
  unfold tkE
  rw [tokM_c h]
theorem tkN_c (h : ∀ i, i < n → T i = T' i) : tkN T n = tkN T' n := by
  funext q
  unfold tkN
  rw [sk_c h, tkE_c h]
/-- a token lies within the text -/
theorem tk_in {q : Nat} (h : ¬ tkK T n q = 0) : q ≤ n := by
  by_cases c : q ≤ n
  · exact c
  · exfalso
    apply h
    have r : rB T n q = 0 := rB_out (by omega)
    unfold tkK tokM
    rw [if_neg (by omega), r, if_neg (by decide), if_neg (by decide), if_neg (by decide)]
    have s : ∀ d, signF 0 d = 0 := fun d => by
      unfold signF
      rw [if_neg (by decide), if_neg (by decide), if_neg (by decide), if_neg (by decide), if_neg (by decide), if_neg (by decide), if_neg (by decide), if_neg (by decide), if_neg (by decide)]
      simp
    rw [s]
    show tkc (if (0 : Int32) = 0 then 6 else 4) 0 = 0
    rw [if_pos rfl]
    decide
theorem tkS_c (h : ∀ i, i < n → T i = T' i) {q : Nat} (hk : ¬ tkK T n q = 0) : tkS T n q = tkS T' n q := by
  unfold tkS
  rw [← tkE_c h]
  exact seg_c h (tkE_b T n q (tk_in hk)).2.1
theorem bKeep_c (h : ∀ i, i < n → T i = T' i) {b : BT} {f m : Nat} (hm : f + m ≤ n) : bKeep b T f m = bKeep b T' f m := by
  unfold bKeep
  have e : (fun i => if b.2.1 ≤ i ∧ i < b.2.1 + m then T (f + (i - b.2.1)) else b.2.2.2.1 i) = (fun i => if b.2.1 ≤ i ∧ i < b.2.1 + m then T' (f + (i - b.2.1)) else b.2.2.2.1 i) := by
    funext i
    by_cases c : b.2.1 ≤ i ∧ i < b.2.1 + m
    · rw [if_pos c, if_pos c]; exact h _ (by omega)
    · rw [if_neg c, if_neg c]
  rw [e]
theorem gT_c (h : ∀ i, i < n → T i = T' i) : gT T n = gT T' n := by
  funext q k
  unfold gT
  rw [tkK_c h, tkN_c h]
theorem gW_c (h : ∀ i, i < n → T i = T' i) : gW T n = gW T' n := by
  funext t q k
  unfold gW
  rw [tkK_c h, gT_c h]
theorem keep_c (h : ∀ i, i < n → T i = T' i) {q : Nat} (hk : ¬ tkK T n q = 0) (b : BT) : bKeep b T q (tkE T n q - q) = bKeep b T' q (tkE T' n q - q) := by
  have := tkE_b T n q (tk_in hk)
  rw [← tkE_c h]
  exact bKeep_c h (by omega)
theorem gN_c (h : ∀ i, i < n → T i = T' i) : gN T n = gN T' n := by
  funext E c g q v b k
  unfold gN
  by_cases c1 : tkK T n q = 26
  · have c2 : tkK T' n q = 26 := by rw [← tkK_c h]; exact c1
    have nz : ¬ tkK T n q = 0 := by omega
    rw [if_pos c1, if_pos c2, gT_c h, tkS_c h nz]
    simp only [keep_c h nz]
  · have c2 : ¬ tkK T' n q = 26 := by rw [← tkK_c h]; exact c1
    rw [if_neg c1, if_neg c2]
/-- exps -/
theorem G_c0 (h : ∀ i, i < n → T i = T' i) {f : Nat} (ih : G T n f = G T' n f) (E : En) (o q v i e c g : Nat) (b : BT) : G T n (f + 1) 0 E o q v i e c g b = G T' n (f + 1) 0 E o q v i e c g b := by
  rw [G_0, G_0]
  rw [ih]
theorem G_c1 (h : ∀ i, i < n → T i = T' i) {f : Nat} (ih : G T n f = G T' n f) (E : En) (o q v i e c g : Nat) (b : BT) : G T n (f + 1) 1 E o q v i e c g b = G T' n (f + 1) 1 E o q v i e c g b := by
  rw [G_1, G_1]
  rw [ih, tkK_c h, gT_c h]
theorem G_c2 (h : ∀ i, i < n → T i = T' i) {f : Nat} (ih : G T n f = G T' n f) (E : En) (o q v i e c g : Nat) (b : BT) : G T n (f + 1) 2 E o q v i e c g b = G T' n (f + 1) 2 E o q v i e c g b := by
  rw [G_2, G_2]
  rw [ih]
theorem G_c3 (h : ∀ i, i < n → T i = T' i) {f : Nat} (ih : G T n f = G T' n f) (E : En) (o q v i e c g : Nat) (b : BT) : G T n (f + 1) 3 E o q v i e c g b = G T' n (f + 1) 3 E o q v i e c g b := by
  rw [G_3, G_3]
  rw [ih, tkK_c h, gT_c h]
theorem G_c4 (h : ∀ i, i < n → T i = T' i) {f : Nat} (ih : G T n f = G T' n f) (E : En) (o q v i e c g : Nat) (b : BT) : G T n (f + 1) 4 E o q v i e c g b = G T' n (f + 1) 4 E o q v i e c g b := by
  rw [G_4, G_4]
  rw [ih, tkK_c h, gT_c h]
theorem G_c5 (h : ∀ i, i < n → T i = T' i) {f : Nat} (ih : G T n f = G T' n f) (E : En) (o q v i e c g : Nat) (b : BT) : G T n (f + 1) 5 E o q v i e c g b = G T' n (f + 1) 5 E o q v i e c g b := by
  rw [G_5, G_5]
  rw [ih, tkK_c h, gT_c h]
theorem G_c6 (h : ∀ i, i < n → T i = T' i) {f : Nat} (ih : G T n f = G T' n f) (E : En) (o q v i e c g : Nat) (b : BT) : G T n (f + 1) 6 E o q v i e c g b = G T' n (f + 1) 6 E o q v i e c g b := by
  rw [G_6, G_6]
  rw [ih]
theorem G_c7 (h : ∀ i, i < n → T i = T' i) {f : Nat} (ih : G T n f = G T' n f) (E : En) (o q v i e c g : Nat) (b : BT) : G T n (f + 1) 7 E o q v i e c g b = G T' n (f + 1) 7 E o q v i e c g b := by
  rw [G_7, G_7]
  rw [ih, tkK_c h, gT_c h]
theorem G_c8 (h : ∀ i, i < n → T i = T' i) {f : Nat} (ih : G T n f = G T' n f) (E : En) (o q v i e c g : Nat) (b : BT) : G T n (f + 1) 8 E o q v i e c g b = G T' n (f + 1) 8 E o q v i e c g b := by
  rw [G_8, G_8]
  rw [ih]
theorem G_c9 (h : ∀ i, i < n → T i = T' i) {f : Nat} (ih : G T n f = G T' n f) (E : En) (o q v i e c g : Nat) (b : BT) : G T n (f + 1) 9 E o q v i e c g b = G T' n (f + 1) 9 E o q v i e c g b := by
  rw [G_9, G_9]
  rw [ih, tkK_c h, gT_c h]
theorem G_c10 (h : ∀ i, i < n → T i = T' i) {f : Nat} (ih : G T n f = G T' n f) (E : En) (o q v i e c g : Nat) (b : BT) : G T n (f + 1) 10 E o q v i e c g b = G T' n (f + 1) 10 E o q v i e c g b := by
  rw [G_10, G_10]
  rw [ih, tkK_c h, gT_c h]
theorem G_c11 (h : ∀ i, i < n → T i = T' i) {f : Nat} (ih : G T n f = G T' n f) (E : En) (o q v i e c g : Nat) (b : BT) : G T n (f + 1) 11 E o q v i e c g b = G T' n (f + 1) 11 E o q v i e c g b := by
  rw [G_11, G_11]
  rw [ih, tkK_c h, gT_c h, gW_c h]
theorem G_c12 (h : ∀ i, i < n → T i = T' i) {f : Nat} (ih : G T n f = G T' n f) (E : En) (o q v i e c g : Nat) (b : BT) : G T n (f + 1) 12 E o q v i e c g b = G T' n (f + 1) 12 E o q v i e c g b := by
  rw [G_12, G_12]
  rw [ih, tkK_c h, gT_c h, gW_c h]
theorem G_c14 (h : ∀ i, i < n → T i = T' i) {f : Nat} (ih : G T n f = G T' n f) (E : En) (o q v i e c g : Nat) (b : BT) : G T n (f + 1) 14 E o q v i e c g b = G T' n (f + 1) 14 E o q v i e c g b := by
  rw [G_14, G_14]
  rw [ih, tkK_c h, gT_c h]
theorem G_c15 (h : ∀ i, i < n → T i = T' i) {f : Nat} (ih : G T n f = G T' n f) (E : En) (o q v i e c g : Nat) (b : BT) : G T n (f + 1) 15 E o q v i e c g b = G T' n (f + 1) 15 E o q v i e c g b := by
  rw [G_15, G_15]
  rw [ih, tkK_c h, gT_c h]
theorem G_c16 (h : ∀ i, i < n → T i = T' i) {f : Nat} (ih : G T n f = G T' n f) (E : En) (o q v i e c g : Nat) (b : BT) : G T n (f + 1) 16 E o q v i e c g b = G T' n (f + 1) 16 E o q v i e c g b := by
  rw [G_16, G_16]
  rw [ih, tkK_c h, gT_c h, gW_c h]
theorem G_c17 (h : ∀ i, i < n → T i = T' i) {f : Nat} (ih : G T n f = G T' n f) (E : En) (o q v i e c g : Nat) (b : BT) : G T n (f + 1) 17 E o q v i e c g b = G T' n (f + 1) 17 E o q v i e c g b := by
  rw [G_17, G_17]
  rw [ih, tkK_c h, gT_c h, gW_c h, gN_c h]
theorem G_c18 (h : ∀ i, i < n → T i = T' i) {f : Nat} (ih : G T n f = G T' n f) (E : En) (o q v i e c g : Nat) (b : BT) : G T n (f + 1) 18 E o q v i e c g b = G T' n (f + 1) 18 E o q v i e c g b := by
  rw [G_18, G_18]
  rw [ih, tkK_c h, gT_c h, gN_c h]
theorem G_c13 (h : ∀ i, i < n → T i = T' i) {f : Nat} (ih : G T n f = G T' n f) (E : En) (o q v i e c g : Nat) (b : BT) : G T n (f + 1) 13 E o q v i e c g b = G T' n (f + 1) 13 E o q v i e c g b := by
  have kq : tkK T n q = tkK T' n q := by rw [tkK_c h]
  rw [G_13, G_13]
  rw [ih, tkK_c h, tkE_c h, gT_c h, gW_c h]
  by_cases c27 : tkK T' n q = 27
  · rw [if_pos c27, if_pos c27]
    have k := keep_c h (q := q) (by rw [kq]; omega) b
    rw [tkE_c h] at k
    rw [k]
  rw [if_neg c27, if_neg c27]
  by_cases c28 : tkK T' n q = 28
  · rw [if_pos c28, if_pos c28]
    have tb := tkE_b T' n q (tk_in (T := T') (n := n) (q := q) (by omega))
    by_cases c0 : tkE T' n q - 2 - q = 0
    · rw [c0]
      have e : ∀ U : Nat → Int32, bKeep b U (q + 1) 0 = (b.1, b.2.1 + 0, b.2.2.1, b.2.2.2.1, b.2.2.2.2) := fun U => by
        unfold bKeep
        have e : (fun i => if b.2.1 ≤ i ∧ i < b.2.1 + 0 then U (q + 1 + (i - b.2.1)) else b.2.2.2.1 i) = b.2.2.2.1 := by
          funext i
          rw [if_neg (by omega)]
        rw [e]
      rw [e T, e T']
    · rw [bKeep_c h (b := b) (f := q + 1) (m := tkE T' n q - 2 - q) (by omega)]
  rw [if_neg c28, if_neg c28]
  by_cases c26 : tkK T' n q = 26
  · rw [tkS_c h (q := q) (by rw [kq]; omega)]
  · rw [if_neg c26, if_neg c26]
theorem G_c (h : ∀ i, i < n → T i = T' i) : ∀ f, G T n f = G T' n f := by
  intro f
  induction f with
  | zero => funext nt E o q v i e c g b; simp only [G]
  | succ f ih =>
    funext nt E o q v i e c g b
    by_cases c19 : 19 ≤ nt
    · obtain ⟨k, rfl⟩ : ∃ k, nt = k + 19 := ⟨nt - 19, by omega⟩
      simp only [G]
    · have : nt = 0 ∨ nt = 1 ∨ nt = 2 ∨ nt = 3 ∨ nt = 4 ∨ nt = 5 ∨ nt = 6 ∨ nt = 7 ∨ nt = 8 ∨ nt = 9 ∨ nt = 10 ∨ nt = 11 ∨ nt = 12 ∨ nt = 13 ∨ nt = 14 ∨ nt = 15 ∨ nt = 16 ∨ nt = 17 ∨ nt = 18 := by omega
      rcases this with rfl | rfl | rfl | rfl | rfl | rfl | rfl | rfl | rfl | rfl | rfl | rfl | rfl | rfl | rfl | rfl | rfl | rfl | rfl
      · exact G_c0 h ih E o q v i e c g b
      · exact G_c1 h ih E o q v i e c g b
      · exact G_c2 h ih E o q v i e c g b
      · exact G_c3 h ih E o q v i e c g b
      · exact G_c4 h ih E o q v i e c g b
      · exact G_c5 h ih E o q v i e c g b
      · exact G_c6 h ih E o q v i e c g b
      · exact G_c7 h ih E o q v i e c g b
      · exact G_c8 h ih E o q v i e c g b
      · exact G_c9 h ih E o q v i e c g b
      · exact G_c10 h ih E o q v i e c g b
      · exact G_c11 h ih E o q v i e c g b
      · exact G_c12 h ih E o q v i e c g b
      · exact G_c13 h ih E o q v i e c g b
      · exact G_c14 h ih E o q v i e c g b
      · exact G_c15 h ih E o q v i e c g b
      · exact G_c16 h ih E o q v i e c g b
      · exact G_c17 h ih E o q v i e c g b
      · exact G_c18 h ih E o q v i e c g b
theorem gX_c (h : ∀ i, i < n → T i = T' i) {f : Nat} {E : En} {b : BT} : gX T n f E b = gX T' n f E b := by
  unfold gX
  rw [tkK_c h, sk_c h, G_c h]
end CGR
