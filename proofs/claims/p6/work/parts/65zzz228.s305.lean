/-! What is laid doesn't hang on what lay there before: two readings of one text over unlike tables. -/
/-- a relation of what is laid, by the variables told, that goes through all that is laid of unit un -/
def RC (un : Nat) (R : Nat → BT → BT → Prop) : Prop :=
  (∀ v b b', R v b b' → b.1 = b'.1 ∧ b.2.1 = b'.2.1) ∧
  (∀ v b b' k x y z, R v b b' → R v (bNode b k x y z) (bNode b' k x y z)) ∧
  (∀ v b b' j l x, R v b b' → R v (bSet b j l x) (bSet b' j l x)) ∧
  (∀ v b b' T f m, R v b b' → R v (bKeep b T f m) (bKeep b' T f m)) ∧
  (∀ v b b' x, R v b b' → R (v + 1) (bSlot b (60 * un + v) x) (bSlot b' (60 * un + v) x))
/-- answers alike -/
def Rg (R : Nat → BT → BT → Prop) (x x' : RG) : Prop := (x = none ∧ x' = none) ∨ (x = some none ∧ x' = some none) ∨ ∃ q v i e b b' nm, x = some (some (q, v, i, e, b, nm)) ∧ x' = some (some (q, v, i, e, b', nm)) ∧ R v b b'
section RGS
variable {T : Nat → Int32} {n un : Nat} {R : Nat → BT → BT → Prop} {x x' y y' : RG} {v : Nat} {b b' : BT}
theorem Rg_0 : Rg R none none := Or.inl ⟨rfl, rfl⟩
theorem Rg_n : Rg R (some none) (some none) := Or.inr (Or.inl ⟨rfl, rfl⟩)
theorem Rg_ss {q i e : Nat} {nm : List Nm} (h : R v b b') : Rg R (some (some (q, v, i, e, b, nm))) (some (some (q, v, i, e, b', nm))) := Or.inr (Or.inr ⟨q, v, i, e, b, b', nm, rfl, rfl, h⟩)
theorem Rg_gb {k k' : RT → RG} (hC : RC un R) (h : Rg R x x') (hk : ∀ (q v i e : Nat) (b b' : BT) (nm : List Nm), R v b b' → b.1 = b'.1 → b.2.1 = b'.2.1 → Rg R (k (q, v, i, e, b, nm)) (k' (q, v, i, e, b', nm))) : Rg R (gb x k) (gb x' k') := by
  rcases h with ⟨h1, h2⟩ | ⟨h1, h2⟩ | ⟨q, v, i, e, b, b', nm, h1, h2, h3⟩
  · rw [h1, h2]; exact Rg_0
  · rw [h1, h2]; exact Rg_n
  · rw [h1, h2]; exact hk q v i e b b' nm h3 (hC.1 v b b' h3).1 (hC.1 v b b' h3).2
theorem Rg_ite {c : Prop} [Decidable c] (h : Rg R x x') (h' : Rg R y y') : Rg R (if c then x else y) (if c then x' else y') := by
  by_cases z : c
  · rw [if_pos z, if_pos z]; exact h
  · rw [if_neg z, if_neg z]; exact h'
theorem Rg_gT {q : Nat} {k k' : Nat → RG} (h : ∀ q1, Rg R (k q1) (k' q1)) : Rg R (gT T n q k) (gT T n q k') := Rg_ite Rg_n (h _)
theorem Rg_gW {t q : Nat} {k k' : Nat → RG} (h : ∀ q1, Rg R (k q1) (k' q1)) : Rg R (gW T n t q k) (gW T n t q k') := Rg_ite (Rg_gT h) Rg_n
theorem Rg_gO {o : Nat} (h : Rg R x x') : Rg R (gO o x) (gO o x') := Rg_ite Rg_n h
theorem R_ite {c : Prop} [Decidable c] {a a' : BT} (h : R v b b') (h' : R v a a') : R v (if c then b else a) (if c then b' else a') := by
  by_cases z : c
  · rw [if_pos z, if_pos z]; exact h
  · rw [if_neg z, if_neg z]; exact h'
theorem R_node (hC : RC un R) {k x y z : Int32} (h : R v b b') : R v (bNode b k x y z) (bNode b' k x y z) := hC.2.1 v b b' k x y z h
theorem R_set (hC : RC un R) {j l : Nat} {x : Int32} (h : R v b b') : R v (bSet b j l x) (bSet b' j l x) := hC.2.2.1 v b b' j l x h
theorem R_keep (hC : RC un R) {f m : Nat} (h : R v b b') : R v (bKeep b T f m) (bKeep b' T f m) := hC.2.2.2.1 v b b' T f m h
theorem R_over (hC : RC un R) {k x z : Int32} {l : Nat} (h : R v b b') : R v (bOver b k x l z) (bOver b' k x l z) := by
  unfold bOver
  rw [(hC.1 v b b' h).1]
  exact R_set hC (R_node hC h)
theorem R_wrap (hC : RC un R) {k x y z u : Int32} (h : R v b b') : R v (bWrap b k x y z u) (bWrap b' k x y z u) := by
  unfold bWrap
  rw [(hC.1 v b b' h).1]
  exact R_set hC (R_node hC h)
theorem Rg_gN {E : En} {c g q : Nat} {k k' : Nat → Nat → Nat → BT → Nm → RG} (hC : RC un R) (hun : E.2.2.2.1 = un) (h : R v b b') (hk : ∀ (q1 e1 : Nat) (b1 b1' : BT) (nm : Nm), R (v + 1) b1 b1' → b1.1 = b1'.1 → b1.2.1 = b1'.2.1 → Rg R (k q1 (v + 1) e1 b1 nm) (k' q1 (v + 1) e1 b1' nm)) : Rg R (gN T n E c g q v b k) (gN T n E c g q v b' k') := by
  unfold gN
  refine Rg_ite (Rg_ite Rg_n (Rg_ite Rg_n (Rg_gT (fun q1 => ?_)))) Rg_n
  have e := hC.1 v b b' h
  rw [← e.1, ← e.2, hun]
  have h2 : R (v + 1) (bNode (bKeep (bSlot b (60 * un + v) (nI g)) T q (tkE T n q - q)) 31 (if un = 0 then 0 else 1) (nI v) 0) (bNode (bKeep (bSlot b' (60 * un + v) (nI g)) T q (tkE T n q - q)) 31 (if un = 0 then 0 else 1) (nI v) 0) := R_node hC (R_keep hC (hC.2.2.2.2 v b b' (nI g) h))
  exact hk q1 b.1 _ _ _ h2 (hC.1 _ _ _ h2).1 (hC.1 _ _ _ h2).2
abbrev GR (T : Nat → Int32) (n un : Nat) (R : Nat → BT → BT → Prop) (f : Nat) : Prop := ∀ (nt : Nat) (E : En) (o q v i e c g : Nat) (b b' : BT), E.2.2.2.1 = un → R v b b' → Rg R (G T n f nt E o q v i e c g b) (G T n f nt E o q v i e c g b')
theorem GR_0 (hC : RC un R) {f : Nat} (ih : GR T n un R f) {E : En} {o q v i e c g : Nat} {b b' : BT} (hun : E.2.2.2.1 = un) (h : R v b b') (s1 : b.1 = b'.1) (s2 : b.2.1 = b'.2.1) : Rg R (G T n (f + 1) 0 E o q v i e c g b) (G T n (f + 1) 0 E o q v i e c g b') := by
  rw [G_0, G_0]
  try simp only [← s1, ← s2]
  repeat' (first
    | with_reducible exact Rg_n
    | with_reducible assumption
    | with_reducible refine Rg_gT (fun q1 => ?_)
    | with_reducible refine Rg_gW (fun q1 => ?_)
    | with_reducible refine Rg_gO ?_
    | with_reducible refine Rg_ite ?_ ?_
    | (with_reducible refine Rg_gb hC (ih _ _ _ _ _ _ _ _ _ _ _ ?_ ?_) (fun q1 v1 i1 e1 b1 b1' nm hR h1 h2 => ?_)); rotate_left 2; (try dsimp only); (try simp only [← h1, ← h2]); rotate_right 2
    | (with_reducible refine Rg_gN hC ?_ ?_ (fun q1 e1 b1 b1' nm hR h1 h2 => ?_)); rotate_left 2; (try dsimp only); (try simp only [← h1, ← h2]); rotate_right 2
    | with_reducible refine ih _ _ _ _ _ _ _ _ _ _ _ ?_ ?_
    | with_reducible refine Rg_ss ?_
    | with_reducible refine R_over hC ?_
    | with_reducible refine R_wrap hC ?_
    | with_reducible refine R_node hC ?_
    | with_reducible refine R_keep hC ?_
    | with_reducible refine R_set hC ?_
    | with_reducible refine R_ite ?_ ?_
    | exact hun)
theorem GR_1 (hC : RC un R) {f : Nat} (ih : GR T n un R f) {E : En} {o q v i e c g : Nat} {b b' : BT} (hun : E.2.2.2.1 = un) (h : R v b b') (s1 : b.1 = b'.1) (s2 : b.2.1 = b'.2.1) : Rg R (G T n (f + 1) 1 E o q v i e c g b) (G T n (f + 1) 1 E o q v i e c g b') := by
  rw [G_1, G_1]
  try simp only [← s1, ← s2]
  repeat' (first
    | with_reducible exact Rg_n
    | with_reducible assumption
    | with_reducible refine Rg_gT (fun q1 => ?_)
    | with_reducible refine Rg_gW (fun q1 => ?_)
    | with_reducible refine Rg_gO ?_
    | with_reducible refine Rg_ite ?_ ?_
    | (with_reducible refine Rg_gb hC (ih _ _ _ _ _ _ _ _ _ _ _ ?_ ?_) (fun q1 v1 i1 e1 b1 b1' nm hR h1 h2 => ?_)); rotate_left 2; (try dsimp only); (try simp only [← h1, ← h2]); rotate_right 2
    | (with_reducible refine Rg_gN hC ?_ ?_ (fun q1 e1 b1 b1' nm hR h1 h2 => ?_)); rotate_left 2; (try dsimp only); (try simp only [← h1, ← h2]); rotate_right 2
    | with_reducible refine ih _ _ _ _ _ _ _ _ _ _ _ ?_ ?_
    | with_reducible refine Rg_ss ?_
    | with_reducible refine R_over hC ?_
    | with_reducible refine R_wrap hC ?_
    | with_reducible refine R_node hC ?_
    | with_reducible refine R_keep hC ?_
    | with_reducible refine R_set hC ?_
    | with_reducible refine R_ite ?_ ?_
    | exact hun)
theorem GR_2 (hC : RC un R) {f : Nat} (ih : GR T n un R f) {E : En} {o q v i e c g : Nat} {b b' : BT} (hun : E.2.2.2.1 = un) (h : R v b b') (s1 : b.1 = b'.1) (s2 : b.2.1 = b'.2.1) : Rg R (G T n (f + 1) 2 E o q v i e c g b) (G T n (f + 1) 2 E o q v i e c g b') := by
  rw [G_2, G_2]
  try simp only [← s1, ← s2]
  repeat' (first
    | with_reducible exact Rg_n
    | with_reducible assumption
    | with_reducible refine Rg_gT (fun q1 => ?_)
    | with_reducible refine Rg_gW (fun q1 => ?_)
    | with_reducible refine Rg_gO ?_
    | with_reducible refine Rg_ite ?_ ?_
    | (with_reducible refine Rg_gb hC (ih _ _ _ _ _ _ _ _ _ _ _ ?_ ?_) (fun q1 v1 i1 e1 b1 b1' nm hR h1 h2 => ?_)); rotate_left 2; (try dsimp only); (try simp only [← h1, ← h2]); rotate_right 2
    | (with_reducible refine Rg_gN hC ?_ ?_ (fun q1 e1 b1 b1' nm hR h1 h2 => ?_)); rotate_left 2; (try dsimp only); (try simp only [← h1, ← h2]); rotate_right 2
    | with_reducible refine ih _ _ _ _ _ _ _ _ _ _ _ ?_ ?_
    | with_reducible refine Rg_ss ?_
    | with_reducible refine R_over hC ?_
    | with_reducible refine R_wrap hC ?_
    | with_reducible refine R_node hC ?_
    | with_reducible refine R_keep hC ?_
    | with_reducible refine R_set hC ?_
    | with_reducible refine R_ite ?_ ?_
    | exact hun)
theorem GR_3 (hC : RC un R) {f : Nat} (ih : GR T n un R f) {E : En} {o q v i e c g : Nat} {b b' : BT} (hun : E.2.2.2.1 = un) (h : R v b b') (s1 : b.1 = b'.1) (s2 : b.2.1 = b'.2.1) : Rg R (G T n (f + 1) 3 E o q v i e c g b) (G T n (f + 1) 3 E o q v i e c g b') := by
  rw [G_3, G_3]
  try simp only [← s1, ← s2]
  repeat' (first
    | with_reducible exact Rg_n
    | with_reducible assumption
    | with_reducible refine Rg_gT (fun q1 => ?_)
    | with_reducible refine Rg_gW (fun q1 => ?_)
    | with_reducible refine Rg_gO ?_
    | with_reducible refine Rg_ite ?_ ?_
    | (with_reducible refine Rg_gb hC (ih _ _ _ _ _ _ _ _ _ _ _ ?_ ?_) (fun q1 v1 i1 e1 b1 b1' nm hR h1 h2 => ?_)); rotate_left 2; (try dsimp only); (try simp only [← h1, ← h2]); rotate_right 2
    | (with_reducible refine Rg_gN hC ?_ ?_ (fun q1 e1 b1 b1' nm hR h1 h2 => ?_)); rotate_left 2; (try dsimp only); (try simp only [← h1, ← h2]); rotate_right 2
    | with_reducible refine ih _ _ _ _ _ _ _ _ _ _ _ ?_ ?_
    | with_reducible refine Rg_ss ?_
    | with_reducible refine R_over hC ?_
    | with_reducible refine R_wrap hC ?_
    | with_reducible refine R_node hC ?_
    | with_reducible refine R_keep hC ?_
    | with_reducible refine R_set hC ?_
    | with_reducible refine R_ite ?_ ?_
    | exact hun)
theorem GR_4 (hC : RC un R) {f : Nat} (ih : GR T n un R f) {E : En} {o q v i e c g : Nat} {b b' : BT} (hun : E.2.2.2.1 = un) (h : R v b b') (s1 : b.1 = b'.1) (s2 : b.2.1 = b'.2.1) : Rg R (G T n (f + 1) 4 E o q v i e c g b) (G T n (f + 1) 4 E o q v i e c g b') := by
  rw [G_4, G_4]
  try simp only [← s1, ← s2]
  repeat' (first
    | with_reducible exact Rg_n
    | with_reducible assumption
    | with_reducible refine Rg_gT (fun q1 => ?_)
    | with_reducible refine Rg_gW (fun q1 => ?_)
    | with_reducible refine Rg_gO ?_
    | with_reducible refine Rg_ite ?_ ?_
    | (with_reducible refine Rg_gb hC (ih _ _ _ _ _ _ _ _ _ _ _ ?_ ?_) (fun q1 v1 i1 e1 b1 b1' nm hR h1 h2 => ?_)); rotate_left 2; (try dsimp only); (try simp only [← h1, ← h2]); rotate_right 2
    | (with_reducible refine Rg_gN hC ?_ ?_ (fun q1 e1 b1 b1' nm hR h1 h2 => ?_)); rotate_left 2; (try dsimp only); (try simp only [← h1, ← h2]); rotate_right 2
    | with_reducible refine ih _ _ _ _ _ _ _ _ _ _ _ ?_ ?_
    | with_reducible refine Rg_ss ?_
    | with_reducible refine R_over hC ?_
    | with_reducible refine R_wrap hC ?_
    | with_reducible refine R_node hC ?_
    | with_reducible refine R_keep hC ?_
    | with_reducible refine R_set hC ?_
    | with_reducible refine R_ite ?_ ?_
    | exact hun)
theorem GR_5 (hC : RC un R) {f : Nat} (ih : GR T n un R f) {E : En} {o q v i e c g : Nat} {b b' : BT} (hun : E.2.2.2.1 = un) (h : R v b b') (s1 : b.1 = b'.1) (s2 : b.2.1 = b'.2.1) : Rg R (G T n (f + 1) 5 E o q v i e c g b) (G T n (f + 1) 5 E o q v i e c g b') := by
  rw [G_5, G_5]
  try simp only [← s1, ← s2]
  repeat' (first
    | with_reducible exact Rg_n
    | with_reducible assumption
    | with_reducible refine Rg_gT (fun q1 => ?_)
    | with_reducible refine Rg_gW (fun q1 => ?_)
    | with_reducible refine Rg_gO ?_
    | with_reducible refine Rg_ite ?_ ?_
    | (with_reducible refine Rg_gb hC (ih _ _ _ _ _ _ _ _ _ _ _ ?_ ?_) (fun q1 v1 i1 e1 b1 b1' nm hR h1 h2 => ?_)); rotate_left 2; (try dsimp only); (try simp only [← h1, ← h2]); rotate_right 2
    | (with_reducible refine Rg_gN hC ?_ ?_ (fun q1 e1 b1 b1' nm hR h1 h2 => ?_)); rotate_left 2; (try dsimp only); (try simp only [← h1, ← h2]); rotate_right 2
    | with_reducible refine ih _ _ _ _ _ _ _ _ _ _ _ ?_ ?_
    | with_reducible refine Rg_ss ?_
    | with_reducible refine R_over hC ?_
    | with_reducible refine R_wrap hC ?_
    | with_reducible refine R_node hC ?_
    | with_reducible refine R_keep hC ?_
    | with_reducible refine R_set hC ?_
    | with_reducible refine R_ite ?_ ?_
    | exact hun)
theorem GR_6 (hC : RC un R) {f : Nat} (ih : GR T n un R f) {E : En} {o q v i e c g : Nat} {b b' : BT} (hun : E.2.2.2.1 = un) (h : R v b b') (s1 : b.1 = b'.1) (s2 : b.2.1 = b'.2.1) : Rg R (G T n (f + 1) 6 E o q v i e c g b) (G T n (f + 1) 6 E o q v i e c g b') := by
  rw [G_6, G_6]
  try simp only [← s1, ← s2]
  repeat' (first
    | with_reducible exact Rg_n
    | with_reducible assumption
    | with_reducible refine Rg_gT (fun q1 => ?_)
    | with_reducible refine Rg_gW (fun q1 => ?_)
    | with_reducible refine Rg_gO ?_
    | with_reducible refine Rg_ite ?_ ?_
    | (with_reducible refine Rg_gb hC (ih _ _ _ _ _ _ _ _ _ _ _ ?_ ?_) (fun q1 v1 i1 e1 b1 b1' nm hR h1 h2 => ?_)); rotate_left 2; (try dsimp only); (try simp only [← h1, ← h2]); rotate_right 2
    | (with_reducible refine Rg_gN hC ?_ ?_ (fun q1 e1 b1 b1' nm hR h1 h2 => ?_)); rotate_left 2; (try dsimp only); (try simp only [← h1, ← h2]); rotate_right 2
    | with_reducible refine ih _ _ _ _ _ _ _ _ _ _ _ ?_ ?_
    | with_reducible refine Rg_ss ?_
    | with_reducible refine R_over hC ?_
    | with_reducible refine R_wrap hC ?_
    | with_reducible refine R_node hC ?_
    | with_reducible refine R_keep hC ?_
    | with_reducible refine R_set hC ?_
    | with_reducible refine R_ite ?_ ?_
    | exact hun)
theorem GR_7 (hC : RC un R) {f : Nat} (ih : GR T n un R f) {E : En} {o q v i e c g : Nat} {b b' : BT} (hun : E.2.2.2.1 = un) (h : R v b b') (s1 : b.1 = b'.1) (s2 : b.2.1 = b'.2.1) : Rg R (G T n (f + 1) 7 E o q v i e c g b) (G T n (f + 1) 7 E o q v i e c g b') := by
  rw [G_7, G_7]
  try simp only [← s1, ← s2]
  repeat' (first
    | with_reducible exact Rg_n
    | with_reducible assumption
    | with_reducible refine Rg_gT (fun q1 => ?_)
    | with_reducible refine Rg_gW (fun q1 => ?_)
    | with_reducible refine Rg_gO ?_
    | with_reducible refine Rg_ite ?_ ?_
    | (with_reducible refine Rg_gb hC (ih _ _ _ _ _ _ _ _ _ _ _ ?_ ?_) (fun q1 v1 i1 e1 b1 b1' nm hR h1 h2 => ?_)); rotate_left 2; (try dsimp only); (try simp only [← h1, ← h2]); rotate_right 2
    | (with_reducible refine Rg_gN hC ?_ ?_ (fun q1 e1 b1 b1' nm hR h1 h2 => ?_)); rotate_left 2; (try dsimp only); (try simp only [← h1, ← h2]); rotate_right 2
    | with_reducible refine ih _ _ _ _ _ _ _ _ _ _ _ ?_ ?_
    | with_reducible refine Rg_ss ?_
    | with_reducible refine R_over hC ?_
    | with_reducible refine R_wrap hC ?_
    | with_reducible refine R_node hC ?_
    | with_reducible refine R_keep hC ?_
    | with_reducible refine R_set hC ?_
    | with_reducible refine R_ite ?_ ?_
    | exact hun)
theorem GR_8 (hC : RC un R) {f : Nat} (ih : GR T n un R f) {E : En} {o q v i e c g : Nat} {b b' : BT} (hun : E.2.2.2.1 = un) (h : R v b b') (s1 : b.1 = b'.1) (s2 : b.2.1 = b'.2.1) : Rg R (G T n (f + 1) 8 E o q v i e c g b) (G T n (f + 1) 8 E o q v i e c g b') := by
  rw [G_8, G_8]
  try simp only [← s1, ← s2]
  repeat' (first
    | with_reducible exact Rg_n
    | with_reducible assumption
    | with_reducible refine Rg_gT (fun q1 => ?_)
    | with_reducible refine Rg_gW (fun q1 => ?_)
    | with_reducible refine Rg_gO ?_
    | with_reducible refine Rg_ite ?_ ?_
    | (with_reducible refine Rg_gb hC (ih _ _ _ _ _ _ _ _ _ _ _ ?_ ?_) (fun q1 v1 i1 e1 b1 b1' nm hR h1 h2 => ?_)); rotate_left 2; (try dsimp only); (try simp only [← h1, ← h2]); rotate_right 2
    | (with_reducible refine Rg_gN hC ?_ ?_ (fun q1 e1 b1 b1' nm hR h1 h2 => ?_)); rotate_left 2; (try dsimp only); (try simp only [← h1, ← h2]); rotate_right 2
    | with_reducible refine ih _ _ _ _ _ _ _ _ _ _ _ ?_ ?_
    | with_reducible refine Rg_ss ?_
    | with_reducible refine R_over hC ?_
    | with_reducible refine R_wrap hC ?_
    | with_reducible refine R_node hC ?_
    | with_reducible refine R_keep hC ?_
    | with_reducible refine R_set hC ?_
    | with_reducible refine R_ite ?_ ?_
    | exact hun)
theorem GR_9 (hC : RC un R) {f : Nat} (ih : GR T n un R f) {E : En} {o q v i e c g : Nat} {b b' : BT} (hun : E.2.2.2.1 = un) (h : R v b b') (s1 : b.1 = b'.1) (s2 : b.2.1 = b'.2.1) : Rg R (G T n (f + 1) 9 E o q v i e c g b) (G T n (f + 1) 9 E o q v i e c g b') := by
  rw [G_9, G_9]
  try simp only [← s1, ← s2]
  repeat' (first
    | with_reducible exact Rg_n
    | with_reducible assumption
    | with_reducible refine Rg_gT (fun q1 => ?_)
    | with_reducible refine Rg_gW (fun q1 => ?_)
    | with_reducible refine Rg_gO ?_
    | with_reducible refine Rg_ite ?_ ?_
    | (with_reducible refine Rg_gb hC (ih _ _ _ _ _ _ _ _ _ _ _ ?_ ?_) (fun q1 v1 i1 e1 b1 b1' nm hR h1 h2 => ?_)); rotate_left 2; (try dsimp only); (try simp only [← h1, ← h2]); rotate_right 2
    | (with_reducible refine Rg_gN hC ?_ ?_ (fun q1 e1 b1 b1' nm hR h1 h2 => ?_)); rotate_left 2; (try dsimp only); (try simp only [← h1, ← h2]); rotate_right 2
    | with_reducible refine ih _ _ _ _ _ _ _ _ _ _ _ ?_ ?_
    | with_reducible refine Rg_ss ?_
    | with_reducible refine R_over hC ?_
    | with_reducible refine R_wrap hC ?_
    | with_reducible refine R_node hC ?_
    | with_reducible refine R_keep hC ?_
    | with_reducible refine R_set hC ?_
    | with_reducible refine R_ite ?_ ?_
    | exact hun)
theorem GR_10 (hC : RC un R) {f : Nat} (ih : GR T n un R f) {E : En} {o q v i e c g : Nat} {b b' : BT} (hun : E.2.2.2.1 = un) (h : R v b b') (s1 : b.1 = b'.1) (s2 : b.2.1 = b'.2.1) : Rg R (G T n (f + 1) 10 E o q v i e c g b) (G T n (f + 1) 10 E o q v i e c g b') := by
  rw [G_10, G_10]
  try simp only [← s1, ← s2]
  repeat' (first
    | with_reducible exact Rg_n
    | with_reducible assumption
    | with_reducible refine Rg_gT (fun q1 => ?_)
    | with_reducible refine Rg_gW (fun q1 => ?_)
    | with_reducible refine Rg_gO ?_
    | with_reducible refine Rg_ite ?_ ?_
    | (with_reducible refine Rg_gb hC (ih _ _ _ _ _ _ _ _ _ _ _ ?_ ?_) (fun q1 v1 i1 e1 b1 b1' nm hR h1 h2 => ?_)); rotate_left 2; (try dsimp only); (try simp only [← h1, ← h2]); rotate_right 2
    | (with_reducible refine Rg_gN hC ?_ ?_ (fun q1 e1 b1 b1' nm hR h1 h2 => ?_)); rotate_left 2; (try dsimp only); (try simp only [← h1, ← h2]); rotate_right 2
    | with_reducible refine ih _ _ _ _ _ _ _ _ _ _ _ ?_ ?_
    | with_reducible refine Rg_ss ?_
    | with_reducible refine R_over hC ?_
    | with_reducible refine R_wrap hC ?_
    | with_reducible refine R_node hC ?_
    | with_reducible refine R_keep hC ?_
    | with_reducible refine R_set hC ?_
    | with_reducible refine R_ite ?_ ?_
    | exact hun)
theorem GR_11 (hC : RC un R) {f : Nat} (ih : GR T n un R f) {E : En} {o q v i e c g : Nat} {b b' : BT} (hun : E.2.2.2.1 = un) (h : R v b b') (s1 : b.1 = b'.1) (s2 : b.2.1 = b'.2.1) : Rg R (G T n (f + 1) 11 E o q v i e c g b) (G T n (f + 1) 11 E o q v i e c g b') := by
  rw [G_11, G_11]
  try simp only [← s1, ← s2]
  repeat' (first
    | with_reducible exact Rg_n
    | with_reducible assumption
    | with_reducible refine Rg_gT (fun q1 => ?_)
    | with_reducible refine Rg_gW (fun q1 => ?_)
    | with_reducible refine Rg_gO ?_
    | with_reducible refine Rg_ite ?_ ?_
    | (with_reducible refine Rg_gb hC (ih _ _ _ _ _ _ _ _ _ _ _ ?_ ?_) (fun q1 v1 i1 e1 b1 b1' nm hR h1 h2 => ?_)); rotate_left 2; (try dsimp only); (try simp only [← h1, ← h2]); rotate_right 2
    | (with_reducible refine Rg_gN hC ?_ ?_ (fun q1 e1 b1 b1' nm hR h1 h2 => ?_)); rotate_left 2; (try dsimp only); (try simp only [← h1, ← h2]); rotate_right 2
    | with_reducible refine ih _ _ _ _ _ _ _ _ _ _ _ ?_ ?_
    | with_reducible refine Rg_ss ?_
    | with_reducible refine R_over hC ?_
    | with_reducible refine R_wrap hC ?_
    | with_reducible refine R_node hC ?_
    | with_reducible refine R_keep hC ?_
    | with_reducible refine R_set hC ?_
    | with_reducible refine R_ite ?_ ?_
    | exact hun)
theorem GR_12 (hC : RC un R) {f : Nat} (ih : GR T n un R f) {E : En} {o q v i e c g : Nat} {b b' : BT} (hun : E.2.2.2.1 = un) (h : R v b b') (s1 : b.1 = b'.1) (s2 : b.2.1 = b'.2.1) : Rg R (G T n (f + 1) 12 E o q v i e c g b) (G T n (f + 1) 12 E o q v i e c g b') := by
  rw [G_12, G_12]
  try simp only [← s1, ← s2]
  repeat' (first
    | with_reducible exact Rg_n
    | with_reducible assumption
    | with_reducible refine Rg_gT (fun q1 => ?_)
    | with_reducible refine Rg_gW (fun q1 => ?_)
    | with_reducible refine Rg_gO ?_
    | with_reducible refine Rg_ite ?_ ?_
    | (with_reducible refine Rg_gb hC (ih _ _ _ _ _ _ _ _ _ _ _ ?_ ?_) (fun q1 v1 i1 e1 b1 b1' nm hR h1 h2 => ?_)); rotate_left 2; (try dsimp only); (try simp only [← h1, ← h2]); rotate_right 2
    | (with_reducible refine Rg_gN hC ?_ ?_ (fun q1 e1 b1 b1' nm hR h1 h2 => ?_)); rotate_left 2; (try dsimp only); (try simp only [← h1, ← h2]); rotate_right 2
    | with_reducible refine ih _ _ _ _ _ _ _ _ _ _ _ ?_ ?_
    | with_reducible refine Rg_ss ?_
    | with_reducible refine R_over hC ?_
    | with_reducible refine R_wrap hC ?_
    | with_reducible refine R_node hC ?_
    | with_reducible refine R_keep hC ?_
    | with_reducible refine R_set hC ?_
    | with_reducible refine R_ite ?_ ?_
    | exact hun)
theorem GR_13 (hC : RC un R) {f : Nat} (ih : GR T n un R f) {E : En} {o q v i e c g : Nat} {b b' : BT} (hun : E.2.2.2.1 = un) (h : R v b b') (s1 : b.1 = b'.1) (s2 : b.2.1 = b'.2.1) : Rg R (G T n (f + 1) 13 E o q v i e c g b) (G T n (f + 1) 13 E o q v i e c g b') := by
  rw [G_13, G_13]
  try simp only [← s1, ← s2]
  repeat' (first
    | with_reducible exact Rg_n
    | with_reducible assumption
    | with_reducible refine Rg_gT (fun q1 => ?_)
    | with_reducible refine Rg_gW (fun q1 => ?_)
    | with_reducible refine Rg_gO ?_
    | with_reducible refine Rg_ite ?_ ?_
    | (with_reducible refine Rg_gb hC (ih _ _ _ _ _ _ _ _ _ _ _ ?_ ?_) (fun q1 v1 i1 e1 b1 b1' nm hR h1 h2 => ?_)); rotate_left 2; (try dsimp only); (try simp only [← h1, ← h2]); rotate_right 2
    | (with_reducible refine Rg_gN hC ?_ ?_ (fun q1 e1 b1 b1' nm hR h1 h2 => ?_)); rotate_left 2; (try dsimp only); (try simp only [← h1, ← h2]); rotate_right 2
    | with_reducible refine ih _ _ _ _ _ _ _ _ _ _ _ ?_ ?_
    | with_reducible refine Rg_ss ?_
    | with_reducible refine R_over hC ?_
    | with_reducible refine R_wrap hC ?_
    | with_reducible refine R_node hC ?_
    | with_reducible refine R_keep hC ?_
    | with_reducible refine R_set hC ?_
    | with_reducible refine R_ite ?_ ?_
    | exact hun)
theorem GR_14 (hC : RC un R) {f : Nat} (ih : GR T n un R f) {E : En} {o q v i e c g : Nat} {b b' : BT} (hun : E.2.2.2.1 = un) (h : R v b b') (s1 : b.1 = b'.1) (s2 : b.2.1 = b'.2.1) : Rg R (G T n (f + 1) 14 E o q v i e c g b) (G T n (f + 1) 14 E o q v i e c g b') := by
  rw [G_14, G_14]
  try simp only [← s1, ← s2]
  repeat' (first
    | with_reducible exact Rg_n
    | with_reducible assumption
    | with_reducible refine Rg_gT (fun q1 => ?_)
    | with_reducible refine Rg_gW (fun q1 => ?_)
    | with_reducible refine Rg_gO ?_
    | with_reducible refine Rg_ite ?_ ?_
    | (with_reducible refine Rg_gb hC (ih _ _ _ _ _ _ _ _ _ _ _ ?_ ?_) (fun q1 v1 i1 e1 b1 b1' nm hR h1 h2 => ?_)); rotate_left 2; (try dsimp only); (try simp only [← h1, ← h2]); rotate_right 2
    | (with_reducible refine Rg_gN hC ?_ ?_ (fun q1 e1 b1 b1' nm hR h1 h2 => ?_)); rotate_left 2; (try dsimp only); (try simp only [← h1, ← h2]); rotate_right 2
    | with_reducible refine ih _ _ _ _ _ _ _ _ _ _ _ ?_ ?_
    | with_reducible refine Rg_ss ?_
    | with_reducible refine R_over hC ?_
    | with_reducible refine R_wrap hC ?_
    | with_reducible refine R_node hC ?_
    | with_reducible refine R_keep hC ?_
    | with_reducible refine R_set hC ?_
    | with_reducible refine R_ite ?_ ?_
    | exact hun)
theorem GR_15 (hC : RC un R) {f : Nat} (ih : GR T n un R f) {E : En} {o q v i e c g : Nat} {b b' : BT} (hun : E.2.2.2.1 = un) (h : R v b b') (s1 : b.1 = b'.1) (s2 : b.2.1 = b'.2.1) : Rg R (G T n (f + 1) 15 E o q v i e c g b) (G T n (f + 1) 15 E o q v i e c g b') := by
  rw [G_15, G_15]
  try simp only [← s1, ← s2]
  repeat' (first
    | with_reducible exact Rg_n
    | with_reducible assumption
    | with_reducible refine Rg_gT (fun q1 => ?_)
    | with_reducible refine Rg_gW (fun q1 => ?_)
    | with_reducible refine Rg_gO ?_
    | with_reducible refine Rg_ite ?_ ?_
    | (with_reducible refine Rg_gb hC (ih _ _ _ _ _ _ _ _ _ _ _ ?_ ?_) (fun q1 v1 i1 e1 b1 b1' nm hR h1 h2 => ?_)); rotate_left 2; (try dsimp only); (try simp only [← h1, ← h2]); rotate_right 2
    | (with_reducible refine Rg_gN hC ?_ ?_ (fun q1 e1 b1 b1' nm hR h1 h2 => ?_)); rotate_left 2; (try dsimp only); (try simp only [← h1, ← h2]); rotate_right 2
    | with_reducible refine ih _ _ _ _ _ _ _ _ _ _ _ ?_ ?_
    | with_reducible refine Rg_ss ?_
    | with_reducible refine R_over hC ?_
    | with_reducible refine R_wrap hC ?_
    | with_reducible refine R_node hC ?_
    | with_reducible refine R_keep hC ?_
    | with_reducible refine R_set hC ?_
    | with_reducible refine R_ite ?_ ?_
    | exact hun)
theorem GR_16 (hC : RC un R) {f : Nat} (ih : GR T n un R f) {E : En} {o q v i e c g : Nat} {b b' : BT} (hun : E.2.2.2.1 = un) (h : R v b b') (s1 : b.1 = b'.1) (s2 : b.2.1 = b'.2.1) : Rg R (G T n (f + 1) 16 E o q v i e c g b) (G T n (f + 1) 16 E o q v i e c g b') := by
  rw [G_16, G_16]
  try simp only [← s1, ← s2]
  repeat' (first
    | with_reducible exact Rg_n
    | with_reducible assumption
    | with_reducible refine Rg_gT (fun q1 => ?_)
    | with_reducible refine Rg_gW (fun q1 => ?_)
    | with_reducible refine Rg_gO ?_
    | with_reducible refine Rg_ite ?_ ?_
    | (with_reducible refine Rg_gb hC (ih _ _ _ _ _ _ _ _ _ _ _ ?_ ?_) (fun q1 v1 i1 e1 b1 b1' nm hR h1 h2 => ?_)); rotate_left 2; (try dsimp only); (try simp only [← h1, ← h2]); rotate_right 2
    | (with_reducible refine Rg_gN hC ?_ ?_ (fun q1 e1 b1 b1' nm hR h1 h2 => ?_)); rotate_left 2; (try dsimp only); (try simp only [← h1, ← h2]); rotate_right 2
    | with_reducible refine ih _ _ _ _ _ _ _ _ _ _ _ ?_ ?_
    | with_reducible refine Rg_ss ?_
    | with_reducible refine R_over hC ?_
    | with_reducible refine R_wrap hC ?_
    | with_reducible refine R_node hC ?_
    | with_reducible refine R_keep hC ?_
    | with_reducible refine R_set hC ?_
    | with_reducible refine R_ite ?_ ?_
    | exact hun)
theorem GR_17 (hC : RC un R) {f : Nat} (ih : GR T n un R f) {E : En} {o q v i e c g : Nat} {b b' : BT} (hun : E.2.2.2.1 = un) (h : R v b b') (s1 : b.1 = b'.1) (s2 : b.2.1 = b'.2.1) : Rg R (G T n (f + 1) 17 E o q v i e c g b) (G T n (f + 1) 17 E o q v i e c g b') := by
  rw [G_17, G_17]
  try simp only [← s1, ← s2]
  repeat' (first
    | with_reducible exact Rg_n
    | with_reducible assumption
    | with_reducible refine Rg_gT (fun q1 => ?_)
    | with_reducible refine Rg_gW (fun q1 => ?_)
    | with_reducible refine Rg_gO ?_
    | with_reducible refine Rg_ite ?_ ?_
    | (with_reducible refine Rg_gb hC (ih _ _ _ _ _ _ _ _ _ _ _ ?_ ?_) (fun q1 v1 i1 e1 b1 b1' nm hR h1 h2 => ?_)); rotate_left 2; (try dsimp only); (try simp only [← h1, ← h2]); rotate_right 2
    | (with_reducible refine Rg_gN hC ?_ ?_ (fun q1 e1 b1 b1' nm hR h1 h2 => ?_)); rotate_left 2; (try dsimp only); (try simp only [← h1, ← h2]); rotate_right 2
    | with_reducible refine ih _ _ _ _ _ _ _ _ _ _ _ ?_ ?_
    | with_reducible refine Rg_ss ?_
    | with_reducible refine R_over hC ?_
    | with_reducible refine R_wrap hC ?_
    | with_reducible refine R_node hC ?_
    | with_reducible refine R_keep hC ?_
    | with_reducible refine R_set hC ?_
    | with_reducible refine R_ite ?_ ?_
    | exact hun)
theorem GR_18 (hC : RC un R) {f : Nat} (ih : GR T n un R f) {E : En} {o q v i e c g : Nat} {b b' : BT} (hun : E.2.2.2.1 = un) (h : R v b b') (s1 : b.1 = b'.1) (s2 : b.2.1 = b'.2.1) : Rg R (G T n (f + 1) 18 E o q v i e c g b) (G T n (f + 1) 18 E o q v i e c g b') := by
  rw [G_18, G_18]
  try simp only [← s1, ← s2]
  repeat' (first
    | with_reducible exact Rg_n
    | with_reducible assumption
    | with_reducible refine Rg_gT (fun q1 => ?_)
    | with_reducible refine Rg_gW (fun q1 => ?_)
    | with_reducible refine Rg_gO ?_
    | with_reducible refine Rg_ite ?_ ?_
    | (with_reducible refine Rg_gb hC (ih _ _ _ _ _ _ _ _ _ _ _ ?_ ?_) (fun q1 v1 i1 e1 b1 b1' nm hR h1 h2 => ?_)); rotate_left 2; (try dsimp only); (try simp only [← h1, ← h2]); rotate_right 2
    | (with_reducible refine Rg_gN hC ?_ ?_ (fun q1 e1 b1 b1' nm hR h1 h2 => ?_)); rotate_left 2; (try dsimp only); (try simp only [← h1, ← h2]); rotate_right 2
    | with_reducible refine ih _ _ _ _ _ _ _ _ _ _ _ ?_ ?_
    | with_reducible refine Rg_ss ?_
    | with_reducible refine R_over hC ?_
    | with_reducible refine R_wrap hC ?_
    | with_reducible refine R_node hC ?_
    | with_reducible refine R_keep hC ?_
    | with_reducible refine R_set hC ?_
    | with_reducible refine R_ite ?_ ?_
    | exact hun)
theorem G_R (hC : RC un R) : ∀ f, GR T n un R f := by
  intro f
  induction f with
  | zero => intro nt E o q v i e c g b b' _ _; unfold G; exact Rg_0
  | succ f ih =>
    intro nt E o q v i e c g b b' hun h
    have e0 := hC.1 v b b' h
    match nt with
    | 0 => exact GR_0 hC ih hun h e0.1 e0.2
    | 1 => exact GR_1 hC ih hun h e0.1 e0.2
    | 2 => exact GR_2 hC ih hun h e0.1 e0.2
    | 3 => exact GR_3 hC ih hun h e0.1 e0.2
    | 4 => exact GR_4 hC ih hun h e0.1 e0.2
    | 5 => exact GR_5 hC ih hun h e0.1 e0.2
    | 6 => exact GR_6 hC ih hun h e0.1 e0.2
    | 7 => exact GR_7 hC ih hun h e0.1 e0.2
    | 8 => exact GR_8 hC ih hun h e0.1 e0.2
    | 9 => exact GR_9 hC ih hun h e0.1 e0.2
    | 10 => exact GR_10 hC ih hun h e0.1 e0.2
    | 11 => exact GR_11 hC ih hun h e0.1 e0.2
    | 12 => exact GR_12 hC ih hun h e0.1 e0.2
    | 13 => exact GR_13 hC ih hun h e0.1 e0.2
    | 14 => exact GR_14 hC ih hun h e0.1 e0.2
    | 15 => exact GR_15 hC ih hun h e0.1 e0.2
    | 16 => exact GR_16 hC ih hun h e0.1 e0.2
    | 17 => exact GR_17 hC ih hun h e0.1 e0.2
    | 18 => exact GR_18 hC ih hun h e0.1 e0.2
    | m + 19 => simp only [G]; exact Rg_0
end RGS
