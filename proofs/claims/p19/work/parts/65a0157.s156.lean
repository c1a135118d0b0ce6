section JnS156
/-! What is made holds what it was made of (reference): strings (made by str2.py). -/
/-- with fuel up to n: an answer is as Q says -/
def Um (n : Nat) (g : Nat → Option (Int32 × MS)) (Q : Int32 × MS → Prop) : Prop := ∀ k, k ≤ n → ∀ r, g k = some r → Q r
section UMR
variable {n : Nat} {g h : Nat → Option (Int32 × MS)} {Q P : Int32 × MS → Prop}
theorem Um_suc (z : g 0 = none) (e : ∀ k, g (k + 1) = h k) (t : ∀ m, m + 1 = n → Um m h Q) : Um n g Q := by
  intro k hk r a
  cases k with
  | zero => rw [z] at a; cases a
  | succ k =>
    cases n with
    | zero => omega
    | succ m =>
      rw [e] at a
      exact t m rfl k (by omega) r a
theorem Um_ite {c : Prop} {d : Decidable c} {a b : Nat → Option (Int32 × MS)} (t : c → Um n a Q) (u : ¬ c → Um n b Q) : Um n (fun k => if c then a k else b k) Q := by
  intro k hk r e
  have e : (if c then a k else b k) = some r := e
  by_cases h : c
  · rw [if_pos h] at e; exact t h k hk r e
  · rw [if_neg h] at e; exact u h k hk r e
theorem Um_chk {c : Prop} {d : Decidable c} {a : Nat → Option (Int32 × MS)} (t : c → Um n a Q) : Um n (fun k => if c then a k else none) Q := by
  intro k hk r e
  have e : (if c then a k else none) = some r := e
  by_cases h : c
  · rw [if_pos h] at e; exact t h k hk r e
  · rw [if_neg h] at e; cases e
theorem Um_chk0 {c : Prop} {d : Decidable c} {a : Nat → Option (Int32 × MS)} (t : ¬ c → Um n a Q) : Um n (fun k => if c then none else a k) Q := by
  intro k hk r e
  have e : (if c then none else a k) = some r := e
  by_cases h : c
  · rw [if_pos h] at e; cases e
  · rw [if_neg h] at e; exact t h k hk r e
theorem Um_some {r : Int32 × MS} (h : Q r) : Um n (fun _ => some r) Q := by
  intro k hk s e
  cases e
  exact h
theorem Um_mono (t : Um n g P) (h : ∀ r, P r → Q r) : Um n g Q := fun k hk r e => h r (t k hk r e)
theorem Um_ob {x : Nat → Option (Int32 × MS)} {f : Nat → Int32 × MS → Option (Int32 × MS)} (t : Um n x P) (h : ∀ r, P r → Um n (fun k => f k r) Q) : Um n (fun k => ob (x k) (f k)) Q := by
  intro k hk r e
  have e : ob (x k) (f k) = some r := e
  cases a : x k with
  | none => rw [a] at e; cases e
  | some s =>
    rw [a] at e
    exact h s (t k hk s a) k hk r e
theorem Um_t (t : Tm g Q) (m : Mn g) : Um n g Q := fun k hk r e => Tm_at t m e
theorem Um_and (t : Um n g P) (u : Um n g Q) : Um n g (fun r => P r ∧ Q r) := fun k hk r e => ⟨t k hk r e, u k hk r e⟩
/-- both sides are known -/
theorem Pm_u2 {g2 : Nat → Option (Int32 × MS)} {P2 : Int32 × MS → Prop} (t : Um n g P) (u : Um n g2 P2) : Pm n g g2 (fun r1 r2 => P r1 ∧ P2 r2) := fun k hk r1 r2 e1 e2 => ⟨t k hk r1 e1, u k hk r2 e2⟩
end UMR
/-- an object that was made at h: kind, length, size, height, cells -/
def NwO (h kd n s ht : Nat) (c : Nat → Int32) (r : Int32 × MS) : Prop := r.1 = nI h ∧ r.2.1 55 = nI (h + 4 + n) ∧ r.2.1 56 = 0 ∧ r.2.2.2 28 h = nI kd ∧ r.2.2.2 28 (h + 1) = nI n ∧ r.2.2.2 28 (h + 2) = nI s ∧ r.2.2.2 28 (h + 3) = nI ht ∧ ∀ i, i < n → r.2.2.2 28 (h + 4 + i) = c i
section UST
variable {g : Nat → Prop} {l : List Nat} {B h t : Nat} {σ : MS}
theorem u_make {m n : Nat} (hS : HS g l B h σ) (hn : n ≤ 200000) (hr : h + 4 + n ≤ B + 870000) {L : Nat → Int32} (h2 : L 2 = nI n) : Um m (fun k => x_make k 0 L σ) (fun r => r = (nI h, mMk σ h (L 1) n)) :=
  Um_mono (Um_t (s_make hS hn h2) (fun k => f_make k _ _ _)) (fun r z => z.elim (fun y => absurd hr y.1) (fun y => y.2))
theorem u_stringOf51 {m f n : Nat} (hS : HS g l B h σ) (h56 : σ.1 56 = 0) (hn : n ≤ 3996) (hr : h + 4 + n ≤ B + 870000) (hf : f + n ≤ 8200) {L : Nat → Int32} (h2 : L 2 = nI f) (h3 : L 3 = nI n) : Um m (fun k => x_stringOf__51 k 0 L σ) (NwO h 4 n (1 + (n + 3) / 4) 0 (fun i => σ.2.2 51 (f + i))) := by
  have hb := HS_b hS
  have hB := hS.2.1
  have hdv : (1 : Int32) + (nI n + 3) / 4 = nI (1 + (n + 3) / 4) := n_str (by omega)
  have l4 : ∀ (m : Nat) (N : Nat → Int32) (τ : MS), N 3 = nI n → N 4 = nI h → τ.1 56 = 0 → τ.1 55 = nI (h + 4 + n) → τ.2.2 28 h = nI 4 → τ.2.2 28 (h + 1) = nI n → τ.2.2 28 (h + 3) = nI 0 → (∀ i, i < n → τ.2.2 28 (h + 4 + i) = σ.2.2 51 (f + i)) → Um m (fun k => x_stringOf__51 k 4 N τ) (NwO h 4 n (1 + (n + 3) / 4) 0 (fun i => σ.2.2 51 (f + i))) := by
    intro m N τ n3 n4 t56 t55 th t1 t3 tc
    refine Um_suc rfl (fun k => by rw [x_stringOf__51]) (fun m _ => ?_)
    refine Um_chk0 (fun _ => ?_)
    rw [n4, show nI h + 2 = nI (h + 2) from n_add (q := 2) (by omega), n3, hdv, n_cl (p := h + 2) (by omega)]
    refine Um_chk (fun _ => ?_)
    show Um m (fun k => x_stringOf__51 k 5 N (mAr τ 28 (h + 2) (nI (1 + (n + 3) / 4)))) _
    refine Um_suc rfl (fun k => by rw [x_stringOf__51]) (fun m _ => ?_)
    have u : ∀ j, j ≠ h + 2 → (mAr τ 28 (h + 2) (nI (1 + (n + 3) / 4))).2.2 28 j = τ.2.2 28 j := fun j hj => by rw [mAr_s, upd_other hj]
    exact Um_some ⟨n4, t55, t56, (u h (by omega)).trans th, (u _ (by omega)).trans t1, by rw [mAr_s, upd_same], (u _ (by omega)).trans t3, fun i hi => (u _ (by omega)).trans (tc i hi)⟩
  have l2 : ∀ (m i : Nat) (N : Nat → Int32) (τ : MS), i ≤ n → N 2 = nI f → N 3 = nI n → N 4 = nI h → N 5 = nI i → τ.1 56 = 0 → τ.1 55 = nI (h + 4 + n) → τ.2.2 28 h = nI 4 → τ.2.2 28 (h + 1) = nI n → τ.2.2 28 (h + 3) = nI 0 → (∀ j, j < i → τ.2.2 28 (h + 4 + j) = σ.2.2 51 (f + j)) → (∀ j, j < 8200 → τ.2.2 51 j = σ.2.2 51 j) → Um m (fun k => x_stringOf__51 k 2 N τ) (NwO h 4 n (1 + (n + 3) / 4) 0 (fun i => σ.2.2 51 (f + i))) := by
    intro m
    induction m using Nat.strongRecOn with
    | ind m ih =>
    intro i N τ hi n2 n3 n4 n5 t56 t55 th t1 t3 tc ts
    refine Um_suc rfl (fun k => by rw [x_stringOf__51]) (fun m1 hm1 => ?_)
    rw [n2, n3, n4, n5, n_add (p := f) (by omega), show nI h + 4 = nI (h + 4) from n_add (q := 4) (by omega), n_add (p := h + 4) (by omega), n_cl (p := f + i) (by omega), n_cl (p := h + 4 + i) (by omega)]
    refine Um_ite (fun y => ?_) (fun y => ?_)
    · have y := (n_le (by omega) (by omega)).mp y
      have e : i = n := by omega
      subst e
      exact l4 m1 N τ n3 n4 t56 t55 th t1 t3 tc
    have hi2 : i < n := by
      by_cases q : n ≤ i
      · exact absurd ((n_le (by omega) (by omega)).mpr q) y
      · omega
    refine Um_ite (fun _ => ?_) (fun w => absurd t56 w)
    refine Um_chk (fun _ => ?_)
    refine Um_chk (fun _ => ?_)
    rw [ts (f + i) (by omega)]
    show Um m1 (fun k => x_stringOf__51 k 3 N (mAr τ 28 (h + 4 + i) (σ.2.2 51 (f + i)))) _
    refine Um_suc rfl (fun k => by rw [x_stringOf__51]) (fun m2 hm2 => ?_)
    have u : ∀ j, j ≠ h + 4 + i → (mAr τ 28 (h + 4 + i) (σ.2.2 51 (f + i))).2.2 28 j = τ.2.2 28 j := fun j hj => by rw [mAr_s, upd_other hj]
    refine ih m2 (by omega) (i + 1) _ _ (by omega) n2 n3 n4 (by show N 5 + 1 = _; rw [n5, n_add1]) t56 t55 ((u _ (by omega)).trans th) ((u _ (by omega)).trans t1) ((u _ (by omega)).trans t3) (fun j hj => ?_) (fun j hj => ?_)
    · by_cases e : j = i
      · rw [e, mAr_s, upd_same]
      · exact (u _ (by omega)).trans (tc j (by omega))
    · rw [mAr_o (by decide)]; exact ts j hj
  refine Um_suc rfl (fun k => by rw [x_stringOf__51]) (fun m1 _ => ?_)
  refine Um_chk0 (fun _ => ?_)
  rw [h3, hdv]
  refine Um_ite (fun _ => ?_) (fun w => absurd ((n_le (q := 1000) (by omega) (by decide)).mpr (by omega)) w)
  refine Um_suc rfl (fun k => by rw [x_stringOf__51]) (fun m2 _ => ?_)
  refine Um_ob (u_make hS (n := n) (by omega) hr (by exact h3)) (fun r hr => ?_)
  rw [hr]
  refine l2 m2 0 _ _ (Nat.zero_le _) h2 h3 rfl rfl ((mMk_s (by decide)).trans h56) ?_ ?_ ?_ ?_ (fun j hj => absurd hj (Nat.not_lt_zero j)) (fun j hj => ?_)
  · show nI (h + (4 + n)) = _
    rw [Nat.add_assoc]
  · show (mMk σ h _ n).2.2 28 h = _
    rw [mMk_28, upd_other (by omega), upd_other (by omega), upd_other (by omega), upd_same]; rfl
  · show (mMk σ h _ n).2.2 28 (h + 1) = _
    rw [mMk_28, upd_other (by omega), upd_other (by omega), upd_same]
  · show (mMk σ h _ n).2.2 28 (h + 3) = _
    rw [mMk_28, upd_same]; rfl
  · show (mMk σ h _ n).2.2 51 j = _
    rw [mMk_o (by decide)]
/-- too long a string -/
theorem v_stringOf51 {m n : Nat} (hn : ¬ n ≤ 3996) (hn2 : n ≤ 60000) {L : Nat → Int32} (h3 : L 3 = nI n) : Um m (fun k => x_stringOf__51 k 0 L σ) (fun r => r = (0, mEr σ 5)) := by
  have hdv : (1 : Int32) + (nI n + 3) / 4 = nI (1 + (n + 3) / 4) := n_str (by omega)
  refine Um_suc rfl (fun k => by rw [x_stringOf__51]) (fun m1 _ => ?_)
  refine Um_chk0 (fun _ => ?_)
  rw [h3, hdv]
  refine Um_ite (fun w => absurd ((n_le (q := 1000) (by omega) (by decide)).mp w) (by omega)) (fun _ => ?_)
  refine Um_ob (Um_t (s_fail _ σ) (fun k => f_fail k _ _ _)) (fun r hr => ?_)
  rw [hr]
  exact Um_some rfl
theorem u_stringOf48 {m f n : Nat} (hS : HS g l B h σ) (h56 : σ.1 56 = 0) (hn : n ≤ 3996) (hr : h + 4 + n ≤ B + 870000) (hf : f + n ≤ 12000) {L : Nat → Int32} (h2 : L 2 = nI f) (h3 : L 3 = nI n) : Um m (fun k => x_stringOf__48 k 0 L σ) (NwO h 4 n (1 + (n + 3) / 4) 0 (fun i => σ.2.2 48 (f + i))) := by
  have hb := HS_b hS
  have hB := hS.2.1
  have hdv : (1 : Int32) + (nI n + 3) / 4 = nI (1 + (n + 3) / 4) := n_str (by omega)
  have l4 : ∀ (m : Nat) (N : Nat → Int32) (τ : MS), N 3 = nI n → N 4 = nI h → τ.1 56 = 0 → τ.1 55 = nI (h + 4 + n) → τ.2.2 28 h = nI 4 → τ.2.2 28 (h + 1) = nI n → τ.2.2 28 (h + 3) = nI 0 → (∀ i, i < n → τ.2.2 28 (h + 4 + i) = σ.2.2 48 (f + i)) → Um m (fun k => x_stringOf__48 k 4 N τ) (NwO h 4 n (1 + (n + 3) / 4) 0 (fun i => σ.2.2 48 (f + i))) := by
    intro m N τ n3 n4 t56 t55 th t1 t3 tc
    refine Um_suc rfl (fun k => by rw [x_stringOf__48]) (fun m _ => ?_)
    refine Um_chk0 (fun _ => ?_)
    rw [n4, show nI h + 2 = nI (h + 2) from n_add (q := 2) (by omega), n3, hdv, n_cl (p := h + 2) (by omega)]
    refine Um_chk (fun _ => ?_)
    show Um m (fun k => x_stringOf__48 k 5 N (mAr τ 28 (h + 2) (nI (1 + (n + 3) / 4)))) _
    refine Um_suc rfl (fun k => by rw [x_stringOf__48]) (fun m _ => ?_)
    have u : ∀ j, j ≠ h + 2 → (mAr τ 28 (h + 2) (nI (1 + (n + 3) / 4))).2.2 28 j = τ.2.2 28 j := fun j hj => by rw [mAr_s, upd_other hj]
    exact Um_some ⟨n4, t55, t56, (u h (by omega)).trans th, (u _ (by omega)).trans t1, by rw [mAr_s, upd_same], (u _ (by omega)).trans t3, fun i hi => (u _ (by omega)).trans (tc i hi)⟩
  have l2 : ∀ (m i : Nat) (N : Nat → Int32) (τ : MS), i ≤ n → N 2 = nI f → N 3 = nI n → N 4 = nI h → N 5 = nI i → τ.1 56 = 0 → τ.1 55 = nI (h + 4 + n) → τ.2.2 28 h = nI 4 → τ.2.2 28 (h + 1) = nI n → τ.2.2 28 (h + 3) = nI 0 → (∀ j, j < i → τ.2.2 28 (h + 4 + j) = σ.2.2 48 (f + j)) → (∀ j, j < 12000 → τ.2.2 48 j = σ.2.2 48 j) → Um m (fun k => x_stringOf__48 k 2 N τ) (NwO h 4 n (1 + (n + 3) / 4) 0 (fun i => σ.2.2 48 (f + i))) := by
    intro m
    induction m using Nat.strongRecOn with
    | ind m ih =>
    intro i N τ hi n2 n3 n4 n5 t56 t55 th t1 t3 tc ts
    refine Um_suc rfl (fun k => by rw [x_stringOf__48]) (fun m1 hm1 => ?_)
    rw [n2, n3, n4, n5, n_add (p := f) (by omega), show nI h + 4 = nI (h + 4) from n_add (q := 4) (by omega), n_add (p := h + 4) (by omega), n_cl (p := f + i) (by omega), n_cl (p := h + 4 + i) (by omega)]
    refine Um_ite (fun y => ?_) (fun y => ?_)
    · have y := (n_le (by omega) (by omega)).mp y
      have e : i = n := by omega
      subst e
      exact l4 m1 N τ n3 n4 t56 t55 th t1 t3 tc
    have hi2 : i < n := by
      by_cases q : n ≤ i
      · exact absurd ((n_le (by omega) (by omega)).mpr q) y
      · omega
    refine Um_ite (fun _ => ?_) (fun w => absurd t56 w)
    refine Um_chk (fun _ => ?_)
    refine Um_chk (fun _ => ?_)
    rw [ts (f + i) (by omega)]
    show Um m1 (fun k => x_stringOf__48 k 3 N (mAr τ 28 (h + 4 + i) (σ.2.2 48 (f + i)))) _
    refine Um_suc rfl (fun k => by rw [x_stringOf__48]) (fun m2 hm2 => ?_)
    have u : ∀ j, j ≠ h + 4 + i → (mAr τ 28 (h + 4 + i) (σ.2.2 48 (f + i))).2.2 28 j = τ.2.2 28 j := fun j hj => by rw [mAr_s, upd_other hj]
    refine ih m2 (by omega) (i + 1) _ _ (by omega) n2 n3 n4 (by show N 5 + 1 = _; rw [n5, n_add1]) t56 t55 ((u _ (by omega)).trans th) ((u _ (by omega)).trans t1) ((u _ (by omega)).trans t3) (fun j hj => ?_) (fun j hj => ?_)
    · by_cases e : j = i
      · rw [e, mAr_s, upd_same]
      · exact (u _ (by omega)).trans (tc j (by omega))
    · rw [mAr_o (by decide)]; exact ts j hj
  refine Um_suc rfl (fun k => by rw [x_stringOf__48]) (fun m1 _ => ?_)
  refine Um_chk0 (fun _ => ?_)
  rw [h3, hdv]
  refine Um_ite (fun _ => ?_) (fun w => absurd ((n_le (q := 1000) (by omega) (by decide)).mpr (by omega)) w)
  refine Um_suc rfl (fun k => by rw [x_stringOf__48]) (fun m2 _ => ?_)
  refine Um_ob (u_make hS (n := n) (by omega) hr (by exact h3)) (fun r hr => ?_)
  rw [hr]
  refine l2 m2 0 _ _ (Nat.zero_le _) h2 h3 rfl rfl ((mMk_s (by decide)).trans h56) ?_ ?_ ?_ ?_ (fun j hj => absurd hj (Nat.not_lt_zero j)) (fun j hj => ?_)
  · show nI (h + (4 + n)) = _
    rw [Nat.add_assoc]
  · show (mMk σ h _ n).2.2 28 h = _
    rw [mMk_28, upd_other (by omega), upd_other (by omega), upd_other (by omega), upd_same]; rfl
  · show (mMk σ h _ n).2.2 28 (h + 1) = _
    rw [mMk_28, upd_other (by omega), upd_other (by omega), upd_same]
  · show (mMk σ h _ n).2.2 28 (h + 3) = _
    rw [mMk_28, upd_same]; rfl
  · show (mMk σ h _ n).2.2 48 j = _
    rw [mMk_o (by decide)]
/-- too long a string -/
theorem v_stringOf48 {m n : Nat} (hn : ¬ n ≤ 3996) (hn2 : n ≤ 60000) {L : Nat → Int32} (h3 : L 3 = nI n) : Um m (fun k => x_stringOf__48 k 0 L σ) (fun r => r = (0, mEr σ 5)) := by
  have hdv : (1 : Int32) + (nI n + 3) / 4 = nI (1 + (n + 3) / 4) := n_str (by omega)
  refine Um_suc rfl (fun k => by rw [x_stringOf__48]) (fun m1 _ => ?_)
  refine Um_chk0 (fun _ => ?_)
  rw [h3, hdv]
  refine Um_ite (fun w => absurd ((n_le (q := 1000) (by omega) (by decide)).mp w) (by omega)) (fun _ => ?_)
  refine Um_ob (Um_t (s_fail _ σ) (fun k => f_fail k _ _ _)) (fun r hr => ?_)
  rw [hr]
  exact Um_some rfl
theorem u_stringOf28 {m f n : Nat} (hS : HS g l B h σ) (h56 : σ.1 56 = 0) (hn : n ≤ 3996) (hr : h + 4 + n ≤ B + 870000) (hf : f + n ≤ h) {L : Nat → Int32} (h2 : L 2 = nI f) (h3 : L 3 = nI n) : Um m (fun k => x_stringOf__28 k 0 L σ) (NwO h 4 n (1 + (n + 3) / 4) 0 (fun i => σ.2.2 28 (f + i))) := by
  have hb := HS_b hS
  have hB := hS.2.1
  have hdv : (1 : Int32) + (nI n + 3) / 4 = nI (1 + (n + 3) / 4) := n_str (by omega)
  have l4 : ∀ (m : Nat) (N : Nat → Int32) (τ : MS), N 3 = nI n → N 4 = nI h → τ.1 56 = 0 → τ.1 55 = nI (h + 4 + n) → τ.2.2 28 h = nI 4 → τ.2.2 28 (h + 1) = nI n → τ.2.2 28 (h + 3) = nI 0 → (∀ i, i < n → τ.2.2 28 (h + 4 + i) = σ.2.2 28 (f + i)) → Um m (fun k => x_stringOf__28 k 4 N τ) (NwO h 4 n (1 + (n + 3) / 4) 0 (fun i => σ.2.2 28 (f + i))) := by
    intro m N τ n3 n4 t56 t55 th t1 t3 tc
    refine Um_suc rfl (fun k => by rw [x_stringOf__28]) (fun m _ => ?_)
    refine Um_chk0 (fun _ => ?_)
    rw [n4, show nI h + 2 = nI (h + 2) from n_add (q := 2) (by omega), n3, hdv, n_cl (p := h + 2) (by omega)]
    refine Um_chk (fun _ => ?_)
    show Um m (fun k => x_stringOf__28 k 5 N (mAr τ 28 (h + 2) (nI (1 + (n + 3) / 4)))) _
    refine Um_suc rfl (fun k => by rw [x_stringOf__28]) (fun m _ => ?_)
    have u : ∀ j, j ≠ h + 2 → (mAr τ 28 (h + 2) (nI (1 + (n + 3) / 4))).2.2 28 j = τ.2.2 28 j := fun j hj => by rw [mAr_s, upd_other hj]
    exact Um_some ⟨n4, t55, t56, (u h (by omega)).trans th, (u _ (by omega)).trans t1, by rw [mAr_s, upd_same], (u _ (by omega)).trans t3, fun i hi => (u _ (by omega)).trans (tc i hi)⟩
  have l2 : ∀ (m i : Nat) (N : Nat → Int32) (τ : MS), i ≤ n → N 2 = nI f → N 3 = nI n → N 4 = nI h → N 5 = nI i → τ.1 56 = 0 → τ.1 55 = nI (h + 4 + n) → τ.2.2 28 h = nI 4 → τ.2.2 28 (h + 1) = nI n → τ.2.2 28 (h + 3) = nI 0 → (∀ j, j < i → τ.2.2 28 (h + 4 + j) = σ.2.2 28 (f + j)) → (∀ j, j < h → τ.2.2 28 j = σ.2.2 28 j) → Um m (fun k => x_stringOf__28 k 2 N τ) (NwO h 4 n (1 + (n + 3) / 4) 0 (fun i => σ.2.2 28 (f + i))) := by
    intro m
    induction m using Nat.strongRecOn with
    | ind m ih =>
    intro i N τ hi n2 n3 n4 n5 t56 t55 th t1 t3 tc ts
    refine Um_suc rfl (fun k => by rw [x_stringOf__28]) (fun m1 hm1 => ?_)
    rw [n2, n3, n4, n5, n_add (p := f) (by omega), show nI h + 4 = nI (h + 4) from n_add (q := 4) (by omega), n_add (p := h + 4) (by omega), n_cl (p := f + i) (by omega), n_cl (p := h + 4 + i) (by omega)]
    refine Um_ite (fun y => ?_) (fun y => ?_)
    · have y := (n_le (by omega) (by omega)).mp y
      have e : i = n := by omega
      subst e
      exact l4 m1 N τ n3 n4 t56 t55 th t1 t3 tc
    have hi2 : i < n := by
      by_cases q : n ≤ i
      · exact absurd ((n_le (by omega) (by omega)).mpr q) y
      · omega
    refine Um_ite (fun _ => ?_) (fun w => absurd t56 w)
    refine Um_chk (fun _ => ?_)
    refine Um_chk (fun _ => ?_)
    rw [ts (f + i) (by omega)]
    show Um m1 (fun k => x_stringOf__28 k 3 N (mAr τ 28 (h + 4 + i) (σ.2.2 28 (f + i)))) _
    refine Um_suc rfl (fun k => by rw [x_stringOf__28]) (fun m2 hm2 => ?_)
    have u : ∀ j, j ≠ h + 4 + i → (mAr τ 28 (h + 4 + i) (σ.2.2 28 (f + i))).2.2 28 j = τ.2.2 28 j := fun j hj => by rw [mAr_s, upd_other hj]
    refine ih m2 (by omega) (i + 1) _ _ (by omega) n2 n3 n4 (by show N 5 + 1 = _; rw [n5, n_add1]) t56 t55 ((u _ (by omega)).trans th) ((u _ (by omega)).trans t1) ((u _ (by omega)).trans t3) (fun j hj => ?_) (fun j hj => ?_)
    · by_cases e : j = i
      · rw [e, mAr_s, upd_same]
      · exact (u _ (by omega)).trans (tc j (by omega))
    · exact (u j (by omega)).trans (ts j hj)
  refine Um_suc rfl (fun k => by rw [x_stringOf__28]) (fun m1 _ => ?_)
  refine Um_chk0 (fun _ => ?_)
  rw [h3, hdv]
  refine Um_ite (fun _ => ?_) (fun w => absurd ((n_le (q := 1000) (by omega) (by decide)).mpr (by omega)) w)
  refine Um_suc rfl (fun k => by rw [x_stringOf__28]) (fun m2 _ => ?_)
  refine Um_ob (u_make hS (n := n) (by omega) hr (by exact h3)) (fun r hr => ?_)
  rw [hr]
  refine l2 m2 0 _ _ (Nat.zero_le _) h2 h3 rfl rfl ((mMk_s (by decide)).trans h56) ?_ ?_ ?_ ?_ (fun j hj => absurd hj (Nat.not_lt_zero j)) (fun j hj => ?_)
  · show nI (h + (4 + n)) = _
    rw [Nat.add_assoc]
  · show (mMk σ h _ n).2.2 28 h = _
    rw [mMk_28, upd_other (by omega), upd_other (by omega), upd_other (by omega), upd_same]; rfl
  · show (mMk σ h _ n).2.2 28 (h + 1) = _
    rw [mMk_28, upd_other (by omega), upd_other (by omega), upd_same]
  · show (mMk σ h _ n).2.2 28 (h + 3) = _
    rw [mMk_28, upd_same]; rfl
  · show (mMk σ h _ n).2.2 28 j = _
    rw [mMk_28, upd_other (by omega), upd_other (by omega), upd_other (by omega), upd_other (by omega)]
/-- too long a string -/
theorem v_stringOf28 {m n : Nat} (hn : ¬ n ≤ 3996) (hn2 : n ≤ 60000) {L : Nat → Int32} (h3 : L 3 = nI n) : Um m (fun k => x_stringOf__28 k 0 L σ) (fun r => r = (0, mEr σ 5)) := by
  have hdv : (1 : Int32) + (nI n + 3) / 4 = nI (1 + (n + 3) / 4) := n_str (by omega)
  refine Um_suc rfl (fun k => by rw [x_stringOf__28]) (fun m1 _ => ?_)
  refine Um_chk0 (fun _ => ?_)
  rw [h3, hdv]
  refine Um_ite (fun w => absurd ((n_le (q := 1000) (by omega) (by decide)).mp w) (by omega)) (fun _ => ?_)
  refine Um_ob (Um_t (s_fail _ σ) (fun k => f_fail k _ _ _)) (fun r hr => ?_)
  rw [hr]
  exact Um_some rfl
theorem u_stringOf12 {m f n : Nat} (hS : HS g l B h σ) (h56 : σ.1 56 = 0) (hn : n ≤ 3996) (hr : h + 4 + n ≤ B + 870000) (hf : f + n ≤ 70000) {L : Nat → Int32} (h2 : L 2 = nI f) (h3 : L 3 = nI n) : Um m (fun k => x_stringOf__12 k 0 L σ) (NwO h 4 n (1 + (n + 3) / 4) 0 (fun i => σ.2.2 12 (f + i))) := by
  have hb := HS_b hS
  have hB := hS.2.1
  have hdv : (1 : Int32) + (nI n + 3) / 4 = nI (1 + (n + 3) / 4) := n_str (by omega)
  have l4 : ∀ (m : Nat) (N : Nat → Int32) (τ : MS), N 3 = nI n → N 4 = nI h → τ.1 56 = 0 → τ.1 55 = nI (h + 4 + n) → τ.2.2 28 h = nI 4 → τ.2.2 28 (h + 1) = nI n → τ.2.2 28 (h + 3) = nI 0 → (∀ i, i < n → τ.2.2 28 (h + 4 + i) = σ.2.2 12 (f + i)) → Um m (fun k => x_stringOf__12 k 4 N τ) (NwO h 4 n (1 + (n + 3) / 4) 0 (fun i => σ.2.2 12 (f + i))) := by
    intro m N τ n3 n4 t56 t55 th t1 t3 tc
    refine Um_suc rfl (fun k => by rw [x_stringOf__12]) (fun m _ => ?_)
    refine Um_chk0 (fun _ => ?_)
    rw [n4, show nI h + 2 = nI (h + 2) from n_add (q := 2) (by omega), n3, hdv, n_cl (p := h + 2) (by omega)]
    refine Um_chk (fun _ => ?_)
    show Um m (fun k => x_stringOf__12 k 5 N (mAr τ 28 (h + 2) (nI (1 + (n + 3) / 4)))) _
    refine Um_suc rfl (fun k => by rw [x_stringOf__12]) (fun m _ => ?_)
    have u : ∀ j, j ≠ h + 2 → (mAr τ 28 (h + 2) (nI (1 + (n + 3) / 4))).2.2 28 j = τ.2.2 28 j := fun j hj => by rw [mAr_s, upd_other hj]
    exact Um_some ⟨n4, t55, t56, (u h (by omega)).trans th, (u _ (by omega)).trans t1, by rw [mAr_s, upd_same], (u _ (by omega)).trans t3, fun i hi => (u _ (by omega)).trans (tc i hi)⟩
  have l2 : ∀ (m i : Nat) (N : Nat → Int32) (τ : MS), i ≤ n → N 2 = nI f → N 3 = nI n → N 4 = nI h → N 5 = nI i → τ.1 56 = 0 → τ.1 55 = nI (h + 4 + n) → τ.2.2 28 h = nI 4 → τ.2.2 28 (h + 1) = nI n → τ.2.2 28 (h + 3) = nI 0 → (∀ j, j < i → τ.2.2 28 (h + 4 + j) = σ.2.2 12 (f + j)) → (∀ j, j < 70000 → τ.2.2 12 j = σ.2.2 12 j) → Um m (fun k => x_stringOf__12 k 2 N τ) (NwO h 4 n (1 + (n + 3) / 4) 0 (fun i => σ.2.2 12 (f + i))) := by
    intro m
    induction m using Nat.strongRecOn with
    | ind m ih =>
    intro i N τ hi n2 n3 n4 n5 t56 t55 th t1 t3 tc ts
    refine Um_suc rfl (fun k => by rw [x_stringOf__12]) (fun m1 hm1 => ?_)
    rw [n2, n3, n4, n5, n_add (p := f) (by omega), show nI h + 4 = nI (h + 4) from n_add (q := 4) (by omega), n_add (p := h + 4) (by omega), n_cl (p := f + i) (by omega), n_cl (p := h + 4 + i) (by omega)]
    refine Um_ite (fun y => ?_) (fun y => ?_)
    · have y := (n_le (by omega) (by omega)).mp y
      have e : i = n := by omega
      subst e
      exact l4 m1 N τ n3 n4 t56 t55 th t1 t3 tc
    have hi2 : i < n := by
      by_cases q : n ≤ i
      · exact absurd ((n_le (by omega) (by omega)).mpr q) y
      · omega
    refine Um_ite (fun _ => ?_) (fun w => absurd t56 w)
    refine Um_chk (fun _ => ?_)
    refine Um_chk (fun _ => ?_)
    rw [ts (f + i) (by omega)]
    show Um m1 (fun k => x_stringOf__12 k 3 N (mAr τ 28 (h + 4 + i) (σ.2.2 12 (f + i)))) _
    refine Um_suc rfl (fun k => by rw [x_stringOf__12]) (fun m2 hm2 => ?_)
    have u : ∀ j, j ≠ h + 4 + i → (mAr τ 28 (h + 4 + i) (σ.2.2 12 (f + i))).2.2 28 j = τ.2.2 28 j := fun j hj => by rw [mAr_s, upd_other hj]
    refine ih m2 (by omega) (i + 1) _ _ (by omega) n2 n3 n4 (by show N 5 + 1 = _; rw [n5, n_add1]) t56 t55 ((u _ (by omega)).trans th) ((u _ (by omega)).trans t1) ((u _ (by omega)).trans t3) (fun j hj => ?_) (fun j hj => ?_)
    · by_cases e : j = i
      · rw [e, mAr_s, upd_same]
      · exact (u _ (by omega)).trans (tc j (by omega))
    · rw [mAr_o (by decide)]; exact ts j hj
  refine Um_suc rfl (fun k => by rw [x_stringOf__12]) (fun m1 _ => ?_)
  refine Um_chk0 (fun _ => ?_)
  rw [h3, hdv]
  refine Um_ite (fun _ => ?_) (fun w => absurd ((n_le (q := 1000) (by omega) (by decide)).mpr (by omega)) w)
  refine Um_suc rfl (fun k => by rw [x_stringOf__12]) (fun m2 _ => ?_)
  refine Um_ob (u_make hS (n := n) (by omega) hr (by exact h3)) (fun r hr => ?_)
  rw [hr]
  refine l2 m2 0 _ _ (Nat.zero_le _) h2 h3 rfl rfl ((mMk_s (by decide)).trans h56) ?_ ?_ ?_ ?_ (fun j hj => absurd hj (Nat.not_lt_zero j)) (fun j hj => ?_)
  · show nI (h + (4 + n)) = _
    rw [Nat.add_assoc]
  · show (mMk σ h _ n).2.2 28 h = _
    rw [mMk_28, upd_other (by omega), upd_other (by omega), upd_other (by omega), upd_same]; rfl
  · show (mMk σ h _ n).2.2 28 (h + 1) = _
    rw [mMk_28, upd_other (by omega), upd_other (by omega), upd_same]
  · show (mMk σ h _ n).2.2 28 (h + 3) = _
    rw [mMk_28, upd_same]; rfl
  · show (mMk σ h _ n).2.2 12 j = _
    rw [mMk_o (by decide)]
/-- too long a string -/
theorem v_stringOf12 {m n : Nat} (hn : ¬ n ≤ 3996) (hn2 : n ≤ 60000) {L : Nat → Int32} (h3 : L 3 = nI n) : Um m (fun k => x_stringOf__12 k 0 L σ) (fun r => r = (0, mEr σ 5)) := by
  have hdv : (1 : Int32) + (nI n + 3) / 4 = nI (1 + (n + 3) / 4) := n_str (by omega)
  refine Um_suc rfl (fun k => by rw [x_stringOf__12]) (fun m1 _ => ?_)
  refine Um_chk0 (fun _ => ?_)
  rw [h3, hdv]
  refine Um_ite (fun w => absurd ((n_le (q := 1000) (by omega) (by decide)).mp w) (by omega)) (fun _ => ?_)
  refine Um_ob (Um_t (s_fail _ σ) (fun k => f_fail k _ _ _)) (fun r hr => ?_)
  rw [hr]
  exact Um_some rfl
theorem u_byteString {m : Nat} (hS : HS g l B h σ) (h56 : σ.1 56 = 0) (hr : h + 5 ≤ B + 870000) (L : Nat → Int32) : Um m (fun k => x_byteString k 0 L σ) (NwO h 4 1 2 0 (fun _ => L 1)) := by
  have hb := HS_b hS
  have hB := hS.2.1
  refine Um_suc rfl (fun k => by rw [x_byteString]) (fun m1 _ => ?_)
  refine Um_ob (u_make hS (n := 1) (by omega) (by omega) rfl) (fun r hr => ?_)
  rw [hr]
  refine Um_ite (fun _ => ?_) (fun w => absurd (by rw [mMk_s (by decide), h56]; decide) w)
  have e28 := mMk_28 (σ := σ) (h := h) (k := (upd (upd (fun _ => 0) 1 4) 2 1 : Nat → Int32) 1) (n := 1)
  have e55 : (mMk σ h ((upd (upd (fun _ => 0) 1 4) 2 1 : Nat → Int32) 1) 1).1 55 = nI (h + (4 + 1)) := rfl
  have e56 : (mMk σ h ((upd (upd (fun _ => 0) 1 4) 2 1 : Nat → Int32) 1) 1).1 56 = 0 := (mMk_s (by decide)).trans h56
  generalize mMk σ h ((upd (upd (fun _ => 0) 1 4) 2 1 : Nat → Int32) 1) 1 = τ at e28 e55 e56
  refine Um_suc rfl (fun k => by rw [x_byteString]) (fun m2 _ => ?_)
  rw [show upd L 2 (nI h) 2 = nI h from upd_same, show nI h + 4 = nI (h + 4) from n_add (q := 4) (by omega), n_cl (p := h + 4) (by omega)]
  refine Um_chk (fun _ => ?_)
  show Um m2 (fun k => x_byteString k 2 (upd L 2 (nI h)) (mAr τ 28 (h + 4) (L 1))) _
  refine Um_suc rfl (fun k => by rw [x_byteString]) (fun m3 _ => ?_)
  rw [show upd L 2 (nI h) 2 = nI h from upd_same, show nI h + 2 = nI (h + 2) from n_add (q := 2) (by omega), n_cl (p := h + 2) (by omega)]
  refine Um_chk (fun _ => ?_)
  show Um m3 (fun k => x_byteString k 3 (upd L 2 (nI h)) (mAr (mAr τ 28 (h + 4) (L 1)) 28 (h + 2) 2)) _
  refine Um_suc rfl (fun k => by rw [x_byteString]) (fun m4 _ => ?_)
  have f28 : (mAr (mAr τ 28 (h + 4) (L 1)) 28 (h + 2) 2).2.2 28 = upd (upd (τ.2.2 28) (h + 4) (L 1)) (h + 2) 2 := by rw [mAr_s, mAr_s]
  refine Um_some ⟨(upd_same : upd L 2 (nI h) 2 = nI h), e55, e56, ?_, ?_, ?_, ?_, fun i hi => ?_⟩
  · show (mAr (mAr τ 28 (h + 4) (L 1)) 28 (h + 2) 2).2.2 28 h = _
    rw [f28, upd_other (by omega), upd_other (by omega), e28, upd_other (by omega), upd_other (by omega), upd_other (by omega), upd_same]; rfl
  · show (mAr (mAr τ 28 (h + 4) (L 1)) 28 (h + 2) 2).2.2 28 (h + 1) = _
    rw [f28, upd_other (by omega), upd_other (by omega), e28, upd_other (by omega), upd_other (by omega), upd_same]
  · show (mAr (mAr τ 28 (h + 4) (L 1)) 28 (h + 2) 2).2.2 28 (h + 2) = _
    rw [f28, upd_same]; rfl
  · show (mAr (mAr τ 28 (h + 4) (L 1)) 28 (h + 2) 2).2.2 28 (h + 3) = _
    rw [f28, upd_other (by omega), upd_other (by omega), e28, upd_same]; rfl
  · have e : i = 0 := by omega
    subst e
    show (mAr (mAr τ 28 (h + 4) (L 1)) 28 (h + 2) 2).2.2 28 (h + 4) = _
    rw [f28, upd_other (by omega), upd_same]
end UST
end JnS156
section JnS157
/-! Two runs side by side (reference): wholes are loaded, made. -/
/-- two rows are the same below n -/
def AgN (f f' : Nat → Int32) (n : Nat) : Prop := ∀ i, i < n → f i = f' i
theorem AgN_mo {f f' : Nat → Int32} {n m : Nat} (h : AgN f f' n) (hm : m ≤ n) : AgN f f' m := fun i hi => h i (by omega)
theorem AgN_up {f f' : Nat → Int32} {n : Nat} {x y : Int32} (h : AgN f f' n) (e : x = y) : AgN (upd f n x) (upd f' n y) (n + 1) := fun i hi => by
  by_cases c : i = n
  · rw [c, upd_same, upd_same, e]
  · rw [upd_other c, upd_other c]; exact h i (by omega)
theorem AgN_st {f f' : Nat → Int32} {n j : Nat} {x y : Int32} (h : AgN f f' n) (e : x = y) : AgN (upd f j x) (upd f' j y) n := fun i hi => by
  by_cases c : i = j
  · rw [c, upd_same, upd_same, e]
  · rw [upd_other c, upd_other c]; exact h i hi
section KWH
variable {g : Nat → Prop} {l : List Nat} {B h t : Nat} {σ : MS}
/-- a whole is loaded: its limbs -/
theorem u_loadA {m v n : Nat} (hW : Wh σ v n) {L : Nat → Int32} (hL : L 1 = nI v) : Um m (fun k => x_loadA k 0 L σ) (fun r => (∀ i, i < n - 1 → r.2.2.2 42 i = σ.2.2 28 (v + 5 + i))) := by
  obtain ⟨hn, h1, h65, hv, hl⟩ := hW
  have lp : ∀ (m i : Nat) (N : Nat → Int32) (τ : MS), i ≤ n - 1 → N 1 = nI v → N 2 = nI i → τ.1 84 = nI (n - 1) → τ.2.2 28 = σ.2.2 28 → (∀ j, j < i → τ.2.2 42 j = σ.2.2 28 (v + 5 + j)) → Um m (fun k => x_loadA k 2 N τ) (fun r => (∀ i, i < n - 1 → r.2.2.2 42 i = σ.2.2 28 (v + 5 + i))) := by
    intro m
    induction m using Nat.strongRecOn with
    | ind m ih =>
    intro i N τ hi n1 n2 t84 t28 tc
    refine Um_suc rfl (fun k => by rw [x_loadA]) (fun m1 hm1 => ?_)
    rw [t84, n2, n1, show nI v + 5 = nI (v + 5) from n_add (q := 5) (by omega), n_add (p := v + 5) (by omega), n_cl (p := v + 5 + i) (by omega), n_cl (p := i) (by omega)]
    refine Um_ite (fun y => ?_) (fun y => ?_)
    · have y := (n_le (by omega) (by omega)).mp y
      refine Um_suc rfl (fun k => by rw [x_loadA]) (fun m2 hm2 => ?_)
      exact Um_some (fun j hj => tc j (by omega))
    have hi2 : i < n - 1 := by
      by_cases q : n - 1 ≤ i
      · exact absurd ((n_le (by omega) (by omega)).mpr q) y
      · omega
    refine Um_chk (fun _ => ?_)
    refine Um_chk (fun _ => ?_)
    rw [t28]
    show Um m1 (fun k => x_loadA k 3 N (mAr τ 42 i (σ.2.2 28 (v + 5 + i)))) _
    refine Um_suc rfl (fun k => by rw [x_loadA]) (fun m2 hm2 => ?_)
    refine ih m2 (by omega) (i + 1) _ _ (by omega) n1 (by show N 2 + 1 = _; rw [n2, n_add1]) t84 ((mAr_o (by decide)).trans t28) (fun j hj => ?_)
    by_cases e : j = i
    · rw [e, mAr_s, upd_same]
    · rw [mAr_s, upd_other e]; exact tc j (by omega)
  refine Um_suc rfl (fun k => by rw [x_loadA]) (fun m1 _ => ?_)
  rw [hL, n_add1, n_cl (p := v + 1) (by omega), hn, show nI n - 1 = nI (n - 1) from n_sub (p := n) (q := 1) (by omega) h1]
  refine Um_chk (fun _ => ?_)
  show Um m1 (fun k => x_loadA k 1 L (mSc σ 84 (nI (n - 1)))) _
  refine Um_suc rfl (fun k => by rw [x_loadA]) (fun m2 _ => ?_)
  exact lp m2 0 _ _ (Nat.zero_le _) hL rfl rfl rfl (fun j hj => absurd hj (Nat.not_lt_zero j))
theorem u_loadB {m v n : Nat} (hW : Wh σ v n) {L : Nat → Int32} (hL : L 1 = nI v) : Um m (fun k => x_loadB k 0 L σ) (fun r => (∀ i, i < n - 1 → r.2.2.2 43 i = σ.2.2 28 (v + 5 + i))) := by
  obtain ⟨hn, h1, h65, hv, hl⟩ := hW
  have lp : ∀ (m i : Nat) (N : Nat → Int32) (τ : MS), i ≤ n - 1 → N 1 = nI v → N 2 = nI i → τ.1 85 = nI (n - 1) → τ.2.2 28 = σ.2.2 28 → (∀ j, j < i → τ.2.2 43 j = σ.2.2 28 (v + 5 + j)) → Um m (fun k => x_loadB k 2 N τ) (fun r => (∀ i, i < n - 1 → r.2.2.2 43 i = σ.2.2 28 (v + 5 + i))) := by
    intro m
    induction m using Nat.strongRecOn with
    | ind m ih =>
    intro i N τ hi n1 n2 t84 t28 tc
    refine Um_suc rfl (fun k => by rw [x_loadB]) (fun m1 hm1 => ?_)
    rw [t84, n2, n1, show nI v + 5 = nI (v + 5) from n_add (q := 5) (by omega), n_add (p := v + 5) (by omega), n_cl (p := v + 5 + i) (by omega), n_cl (p := i) (by omega)]
    refine Um_ite (fun y => ?_) (fun y => ?_)
    · have y := (n_le (by omega) (by omega)).mp y
      refine Um_suc rfl (fun k => by rw [x_loadB]) (fun m2 hm2 => ?_)
      exact Um_some (fun j hj => tc j (by omega))
    have hi2 : i < n - 1 := by
      by_cases q : n - 1 ≤ i
      · exact absurd ((n_le (by omega) (by omega)).mpr q) y
      · omega
    refine Um_chk (fun _ => ?_)
    refine Um_chk (fun _ => ?_)
    rw [t28]
    show Um m1 (fun k => x_loadB k 3 N (mAr τ 43 i (σ.2.2 28 (v + 5 + i)))) _
    refine Um_suc rfl (fun k => by rw [x_loadB]) (fun m2 hm2 => ?_)
    refine ih m2 (by omega) (i + 1) _ _ (by omega) n1 (by show N 2 + 1 = _; rw [n2, n_add1]) t84 ((mAr_o (by decide)).trans t28) (fun j hj => ?_)
    by_cases e : j = i
    · rw [e, mAr_s, upd_same]
    · rw [mAr_s, upd_other e]; exact tc j (by omega)
  refine Um_suc rfl (fun k => by rw [x_loadB]) (fun m1 _ => ?_)
  rw [hL, n_add1, n_cl (p := v + 1) (by omega), hn, show nI n - 1 = nI (n - 1) from n_sub (p := n) (q := 1) (by omega) h1]
  refine Um_chk (fun _ => ?_)
  show Um m1 (fun k => x_loadB k 1 L (mSc σ 85 (nI (n - 1)))) _
  refine Um_suc rfl (fun k => by rw [x_loadB]) (fun m2 _ => ?_)
  exact lp m2 0 _ _ (Nat.zero_le _) hL rfl rfl rfl (fun j hj => absurd hj (Nat.not_lt_zero j))
/-- how many limbs are left when zeroes above are gone -/
def trN (f : Nat → Int32) : Nat → Nat
  | 0 => 0
  | n + 1 => if f n = 0 then trN f n else n + 1
theorem trN_le (f : Nat → Int32) : ∀ n, trN f n ≤ n
  | 0 => Nat.le_refl _
  | n + 1 => by
    have := trN_le f n
    unfold trN
    by_cases c : f n = 0
    · rw [if_pos c]; omega
    · rw [if_neg c]; omega
theorem trN_ag {f f' : Nat → Int32} : ∀ n, AgN f f' n → trN f' n = trN f n
  | 0, _ => rfl
  | n + 1, h => by
    unfold trN
    rw [h n (by omega), trN_ag n (AgN_mo h (by omega))]
/-- a whole is made of limbs and a sign -/
theorem u_wholeOf {m c : Nat} (hS : HS g l B h σ) (h56 : σ.1 56 = 0) (hr : h + 70 ≤ B + 870000) (hc : c ≤ 300) (h86 : σ.1 86 = nI c) (L : Nat → Int32) : Um m (fun k => x_wholeOf k 0 L σ) (fun r => (trN (σ.2.2 44) c ≤ 64 ∧ NwO h 2 (trN (σ.2.2 44) c + 1) (1 + (trN (σ.2.2 44) c + 1) / 2) 0 (fun i => if i = 0 then (if trN (σ.2.2 44) c = 0 then 0 else L 1) else σ.2.2 44 (i - 1)) r) ∨ (64 < trN (σ.2.2 44) c ∧ r.1 = 0 ∧ r.2.1 55 = nI h ∧ ¬ r.2.1 56 = 0)) := by
  have hb := HS_b hS
  have hB := hS.2.1
  generalize hz : trN (σ.2.2 44) c = z
  have hz300 : z ≤ 300 := by have := trN_le (σ.2.2 44) c; omega
  -- the limbs
  have l7 : z ≤ 64 → ∀ (m i : Nat) (N : Nat → Int32) (τ : MS), i ≤ z → N 2 = nI h → N 3 = nI i → τ.1 86 = nI z → τ.1 56 = 0 → τ.1 55 = nI (h + 4 + (z + 1)) → τ.2.2 44 = σ.2.2 44 → τ.2.2 28 h = nI 2 → τ.2.2 28 (h + 1) = nI (z + 1) → τ.2.2 28 (h + 3) = nI 0 → τ.2.2 28 (h + 4) = (if z = 0 then 0 else L 1) → (∀ j, j < i → τ.2.2 28 (h + 5 + j) = σ.2.2 44 j) → Um m (fun k => x_wholeOf k 7 N τ) (NwO h 2 (z + 1) (1 + (z + 1) / 2) 0 (fun i => if i = 0 then (if z = 0 then 0 else L 1) else σ.2.2 44 (i - 1))) := by
    intro hz64 m
    induction m using Nat.strongRecOn with
    | ind m ih =>
    intro i N τ hi n2 n3 t86 t56 t55 t44 th t1 t3 t4 tc
    refine Um_suc rfl (fun k => by rw [x_wholeOf]) (fun m1 hm1 => ?_)
    rw [t86, n3, n2, show nI h + 5 = nI (h + 5) from n_add (q := 5) (by omega), n_add (p := h + 5) (by omega), n_cl (p := i) (by omega), n_cl (p := h + 5 + i) (by omega)]
    refine Um_ite (fun y => ?_) (fun y => ?_)
    · have y := (n_le (by omega) (by omega)).mp y
      have e : i = z := by omega
      subst e
      refine Um_suc rfl (fun k => by rw [x_wholeOf]) (fun m2 hm2 => ?_)
      refine Um_chk0 (fun _ => ?_)
      rw [n2, t86, show nI h + 2 = nI (h + 2) from n_add (q := 2) (by omega), n_cl (p := h + 2) (by omega), n_add1, show nI (i + 1) / 2 = nI ((i + 1) / 2) from n_div (q := 2) (by omega) (by decide) (by decide), show (1 : Int32) + nI ((i + 1) / 2) = nI (1 + (i + 1) / 2) from n_add (p := 1) (by omega)]
      refine Um_chk (fun _ => ?_)
      show Um m2 (fun k => x_wholeOf k 10 N (mAr τ 28 (h + 2) (nI (1 + (i + 1) / 2)))) _
      refine Um_suc rfl (fun k => by rw [x_wholeOf]) (fun m3 hm3 => ?_)
      have u : ∀ j, j ≠ h + 2 → (mAr τ 28 (h + 2) (nI (1 + (i + 1) / 2))).2.2 28 j = τ.2.2 28 j := fun j hj => by rw [mAr_s, upd_other hj]
      refine Um_some ⟨n2, t55, t56, (u _ (by omega)).trans th, (u _ (by omega)).trans t1, by rw [mAr_s, upd_same], (u _ (by omega)).trans t3, fun j hj => ?_⟩
      rw [u _ (by omega)]
      show _ = (if j = 0 then (if i = 0 then 0 else L 1) else σ.2.2 44 (j - 1))
      by_cases e0 : j = 0
      · rw [if_pos e0, e0]; exact t4
      · rw [if_neg e0, show h + 4 + j = h + 5 + (j - 1) by omega]; exact tc (j - 1) (by omega)
    have hi2 : i < z := by
      by_cases q : z ≤ i
      · exact absurd ((n_le (by omega) (by omega)).mpr q) y
      · omega
    refine Um_chk (fun _ => ?_)
    refine Um_chk (fun _ => ?_)
    rw [t44]
    show Um m1 (fun k => x_wholeOf k 8 N (mAr τ 28 (h + 5 + i) (σ.2.2 44 i))) _
    refine Um_suc rfl (fun k => by rw [x_wholeOf]) (fun m2 hm2 => ?_)
    have u : ∀ j, j ≠ h + 5 + i → (mAr τ 28 (h + 5 + i) (σ.2.2 44 i)).2.2 28 j = τ.2.2 28 j := fun j hj => by rw [mAr_s, upd_other hj]
    refine ih m2 (by omega) (i + 1) _ _ (by omega) n2 (by show N 3 + 1 = _; rw [n3, n_add1]) t86 t56 t55 ((mAr_o (by decide)).trans t44) ((u _ (by omega)).trans th) ((u _ (by omega)).trans t1) ((u _ (by omega)).trans t3) ((u _ (by omega)).trans t4) (fun j hj => ?_)
    by_cases e : j = i
    · rw [e, mAr_s, upd_same]
    · exact (u _ (by omega)).trans (tc j (by omega))
  -- zeroes above are taken away
  have l1 : ∀ (m : Nat) (τ : MS), HS g l B h τ → τ.1 56 = 0 → τ.1 86 = nI z → τ.2.2 44 = σ.2.2 44 → τ.1 55 = nI h → Um m (fun k => x_wholeOf k 1 L τ) (fun r => (z ≤ 64 ∧ NwO h 2 (z + 1) (1 + (z + 1) / 2) 0 (fun i => if i = 0 then (if z = 0 then 0 else L 1) else σ.2.2 44 (i - 1)) r) ∨ (64 < z ∧ r.1 = 0 ∧ r.2.1 55 = nI h ∧ ¬ r.2.1 56 = 0)) := by
    intro m τ hSτ t56 t86 t44 t55
    refine Um_suc rfl (fun k => by rw [x_wholeOf]) (fun m1 hm1 => ?_)
    rw [t86]
    refine Um_ite (fun y => ?_) (fun y => ?_)
    · have hz64 := (n_le (q := 64) (by omega) (by decide)).mp y
      refine Um_suc rfl (fun k => by rw [x_wholeOf]) (fun m2 hm2 => ?_)
      rw [t86, n_add1]
      refine Um_ob (u_make hSτ (n := z + 1) (by omega) (by omega) rfl) (fun r hr => ?_)
      rw [hr]
      refine Um_ite (fun _ => ?_) (fun w => absurd (by rw [mMk_s (by decide), t56]; decide) w)
      have e28 := mMk_28 (σ := τ) (h := h) (k := (upd (upd (fun _ => 0) 1 2) 2 (nI (z + 1)) : Nat → Int32) 1) (n := z + 1)
      have e55 : (mMk τ h ((upd (upd (fun _ => 0) 1 2) 2 (nI (z + 1)) : Nat → Int32) 1) (z + 1)).1 55 = nI (h + (4 + (z + 1))) := rfl
      have e56 : (mMk τ h ((upd (upd (fun _ => 0) 1 2) 2 (nI (z + 1)) : Nat → Int32) 1) (z + 1)).1 56 = 0 := (mMk_s (by decide)).trans t56
      have e86 : (mMk τ h ((upd (upd (fun _ => 0) 1 2) 2 (nI (z + 1)) : Nat → Int32) 1) (z + 1)).1 86 = nI z := (mMk_s (by decide)).trans t86
      have e44 : (mMk τ h ((upd (upd (fun _ => 0) 1 2) 2 (nI (z + 1)) : Nat → Int32) 1) (z + 1)).2.2 44 = σ.2.2 44 := (mMk_o (by decide)).trans t44
      generalize mMk τ h ((upd (upd (fun _ => 0) 1 2) 2 (nI (z + 1)) : Nat → Int32) 1) (z + 1) = υ at e28 e55 e56 e86 e44
      have k2 : ((upd (upd (fun _ => 0) 1 2) 2 (nI (z + 1)) : Nat → Int32) 1) = nI 2 := rfl
      rw [k2] at e28
      have l5 : ∀ (m : Nat) (N : Nat → Int32), N 2 = nI h → N 101 = nI (h + 4) → N 100 = (if z = 0 then 0 else L 1) → Um m (fun k => x_wholeOf k 5 N υ) (fun r => (z ≤ 64 ∧ NwO h 2 (z + 1) (1 + (z + 1) / 2) 0 (fun i => if i = 0 then (if z = 0 then 0 else L 1) else σ.2.2 44 (i - 1)) r) ∨ (64 < z ∧ r.1 = 0 ∧ r.2.1 55 = nI h ∧ ¬ r.2.1 56 = 0)) := by
        intro m N n2 n101 n100
        refine Um_suc rfl (fun k => by rw [x_wholeOf]) (fun m3 hm3 => ?_)
        rw [n101, n_cl (p := h + 4) (by omega), n100]
        refine Um_chk (fun _ => ?_)
        show Um m3 (fun k => x_wholeOf k 6 N (mAr υ 28 (h + 4) (if z = 0 then 0 else L 1))) _
        refine Um_suc rfl (fun k => by rw [x_wholeOf]) (fun m4 hm4 => ?_)
        have u : ∀ j, j ≠ h + 4 → (mAr υ 28 (h + 4) (if z = 0 then 0 else L 1)).2.2 28 j = υ.2.2 28 j := fun j hj => by rw [mAr_s, upd_other hj]
        refine Um_mono (l7 hz64 m4 0 _ _ (Nat.zero_le _) n2 rfl e86 e56 (by show υ.1 55 = _; rw [e55]; congr 1; omega) ((mAr_o (by decide)).trans e44) ?_ ?_ ?_ ?_ (fun j hj => absurd hj (Nat.not_lt_zero j))) (fun r hr => Or.inl ⟨hz64, hr⟩)
        · rw [u _ (by omega), e28, upd_other (by omega), upd_other (by omega), upd_other (by omega), upd_same]
        · rw [u _ (by omega), e28, upd_other (by omega), upd_other (by omega), upd_same]
        · rw [u _ (by omega), e28, upd_same]; rfl
        · rw [mAr_s, upd_same]
      refine Um_suc rfl (fun k => by rw [x_wholeOf]) (fun m3 hm3 => ?_)
      rw [e86, show upd L 2 (nI h) 2 = nI h from upd_same, show nI h + 4 = nI (h + 4) from n_add (q := 4) (by omega)]
      refine Um_ite (fun q => ?_) (fun q => ?_)
      · have q := (n_eq0 (by omega)).mp q
        exact l5 m3 _ rfl rfl (by rw [if_pos q]; rfl)
      · have q : ¬ z = 0 := fun e => q (by rw [e]; rfl)
        refine Um_suc rfl (fun k => by rw [x_wholeOf]) (fun m4 hm4 => ?_)
        exact l5 m4 _ rfl rfl (by rw [if_neg q]; rfl)
    · refine Um_ob (Um_t (s_fail _ τ) (fun k => f_fail k _ _ _)) (fun r hr => ?_)
      rw [hr]
      refine Um_some (Or.inr ⟨?_, rfl, (mEr_s (by decide)).trans t55, mEr_e (by decide)⟩)
      by_cases q : z ≤ 64
      · exact absurd ((n_le (q := 64) (by omega) (by decide)).mpr q) y
      · omega
  have l0 : ∀ (c : Nat) (m : Nat) (τ : MS), c ≤ 300 → trN (σ.2.2 44) c = z → HS g l B h τ → τ.1 56 = 0 → τ.1 86 = nI c → τ.2.2 44 = σ.2.2 44 → τ.1 55 = nI h → Um m (fun k => x_wholeOf k 0 L τ) (fun r => (z ≤ 64 ∧ NwO h 2 (z + 1) (1 + (z + 1) / 2) 0 (fun i => if i = 0 then (if z = 0 then 0 else L 1) else σ.2.2 44 (i - 1)) r) ∨ (64 < z ∧ r.1 = 0 ∧ r.2.1 55 = nI h ∧ ¬ r.2.1 56 = 0)) := by
    intro c
    induction c with
    | zero =>
      intro m τ hc hz hSτ t56 t86 t44 t55
      have hz : 0 = z := hz
      refine Um_suc rfl (fun k => by rw [x_wholeOf]) (fun m1 hm1 => ?_)
      rw [t86]
      refine Um_ite (fun _ => l1 m1 τ hSτ t56 (by rw [t86, hz]) t44 t55) (fun w => absurd (by decide) w)
    | succ c ih =>
      intro m τ hc hz hSτ t56 t86 t44 t55
      unfold trN at hz
      refine Um_suc rfl (fun k => by rw [x_wholeOf]) (fun m1 hm1 => ?_)
      rw [t86, show nI (c + 1) - 1 = nI c from n_sub1 (by omega), n_cl (p := c) (by omega), t44]
      refine Um_ite (fun w => absurd ((n_le0 (by omega)).mp w) (by omega)) (fun _ => ?_)
      refine Um_chk (fun _ => ?_)
      refine Um_ite (fun y => ?_) (fun y => ?_)
      · rw [if_pos y] at hz
        show Um m1 (fun k => x_wholeOf k 0 L (mSc τ 86 (nI c))) _
        exact ih m1 _ (by omega) hz (HS_c hSτ rfl rfl rfl) t56 rfl t44 t55
      · rw [if_neg y] at hz
        exact l1 m1 τ hSτ t56 (by rw [t86, hz]) t44 t55
  exact l0 c m σ hc hz hS h56 h86 rfl hS.2.2.1
end KWH
end JnS157
section JnS158
/-! Two runs side by side (reference): sums and differences of wholes. -/
/-- both have an error or none; without one the answers hold the same; the heaps grew by no more than K -/
def KQ (h1 h2 K : Nat) (r1 r2 : Int32 × MS) : Prop := (r1.2.1 56 = 0 ↔ r2.2.1 56 = 0) ∧ (r1.2.1 56 = 0 → ∃ a b, r1.1 = nI a ∧ r2.1 = nI b ∧ a < 1740000 ∧ b < 1740000 ∧ EVb (r1.2.2.2 28) (r2.2.2.2 28) a b) ∧ (∃ p1 p2, r1.2.1 55 = nI p1 ∧ r2.2.1 55 = nI p2 ∧ p1 ≤ h1 + K ∧ p2 ≤ h2 + K)
/-- locals from 3 on are the same -/
def LE3 (N1 N2 : Nat → Int32) : Prop := ∀ i, 3 ≤ i → N1 i = N2 i
theorem LE_u {N1 N2 : Nat → Int32} {j : Nat} {x y : Int32} (h : LE3 N1 N2) (e : x = y) : LE3 (upd N1 j x) (upd N2 j y) := fun i hi => by
  by_cases c : i = j
  · rw [c, upd_same, upd_same, e]
  · rw [upd_other c, upd_other c]; exact h i hi
def SA (σ1 σ2 : MS) (p q c i : Nat) (τ1 τ2 : MS) : Prop := NF σ1 τ1 ∧ NF σ2 τ2 ∧ τ1.1 84 = nI p ∧ τ2.1 84 = nI p ∧ τ1.1 85 = nI q ∧ τ2.1 85 = nI q ∧ τ1.1 86 = nI c ∧ τ2.1 86 = nI c ∧ AgN (τ1.2.2 42) (τ2.2.2 42) p ∧ AgN (τ1.2.2 43) (τ2.2.2 43) q ∧ AgN (τ1.2.2 44) (τ2.2.2 44) i
section KAD
variable {g1 g2 : Nat → Prop} {l1 l2 : List Nat} {B1 h1 B2 h2 n : Nat} {σ1 σ2 : MS}
/-- two objects of bytes or limbs, made alike -/
theorem NwO_ev {hx hy kd n s ht K : Nat} {c d : Nat → Int32} {r1 r2 : Int32 × MS} (hk : kd ≤ 4) (hn : n ≤ 3996) (hK : 4 + n ≤ K) (h3 : 3 ≤ hx) (h4 : 3 ≤ hy) (bx : hx < 1740000) (by' : hy < 1740000) (a : NwO hx kd n s ht c r1) (b : NwO hy kd n s ht d r2) (hc : ∀ i, i < n → c i = d i) : KQ hx hy K r1 r2 := by
  obtain ⟨a1, a2, a3, a4, a5, a6, a7, a8⟩ := a
  obtain ⟨b1, b2, b3, b4, b5, b6, b7, b8⟩ := b
  refine ⟨⟨fun _ => b3, fun _ => a3⟩, fun _ => ⟨hx, hy, a1, b1, bx, by', EVb_mk h3 h4 (fun i hi => ?_) (fun n' hn' hn2 i hi => Or.inr ⟨?_, ?_⟩)⟩, _, _, a2, b2, by omega, by omega⟩
  · have : i = 0 ∨ i = 1 ∨ i = 2 ∨ i = 3 := by omega
    rcases this with rfl | rfl | rfl | rfl
    · exact b4.trans a4.symm
    · exact b5.trans a5.symm
    · exact b6.trans a6.symm
    · exact b7.trans a7.symm
  · rw [a4]
    intro z
    rcases z with z | z
    · have := (n_eq (p := kd) (q := 5) (by omega) (by decide)).mp z; omega
    · have := (n_eq (p := kd) (q := 6) (by omega) (by decide)).mp z; omega
  · have e : n = n' := (n_eq (by omega) (by omega)).mp (a5.symm.trans hn')
    subst e
    rw [a8 i hi, b8 i hi, hc i hi]
theorem KQ_er {K : Nat} {r1 r2 : Int32 × MS} (e1 : ¬ r1.2.1 56 = 0) (e2 : ¬ r2.2.1 56 = 0) (f1 : r1.2.1 55 = nI h1) (f2 : r2.2.1 55 = nI h2) : KQ h1 h2 K r1 r2 := ⟨⟨fun z => absurd z e1, fun z => absurd z e2⟩, fun z => absurd z e1, h1, h2, f1, f2, by omega, by omega⟩
theorem k_wholeOf {c : Nat} (hS1 : HS g1 l1 B1 h1 σ1) (hS2 : HS g2 l2 B2 h2 σ2) (e1 : σ1.1 56 = 0) (e2 : σ2.1 56 = 0) (hr1 : h1 + 70 ≤ B1 + 870000) (hr2 : h2 + 70 ≤ B2 + 870000) (hc : c ≤ 300) (c1 : σ1.1 86 = nI c) (c2 : σ2.1 86 = nI c) (hA : AgN (σ1.2.2 44) (σ2.2.2 44) c) {L1 L2 : Nat → Int32} (hL : L1 1 = L2 1) : Pm n (fun k => x_wholeOf k 0 L1 σ1) (fun k => x_wholeOf k 0 L2 σ2) (KQ h1 h2 70) := by
  have b1 := HS_b hS1
  have b2 := HS_b hS2
  have x1 := hS1.2.1
  have x2 := hS2.2.1
  refine Pm_mono (Pm_u2 (u_wholeOf hS1 e1 hr1 hc c1 L1) (u_wholeOf hS2 e2 hr2 hc c2 L2)) (fun r1 r2 hr => ?_)
  obtain ⟨q1, q2⟩ := hr
  have ez := trN_ag c hA
  have hz := trN_le (σ1.2.2 44) c
  rw [ez] at q2
  rcases q1 with ⟨z1, q1⟩ | ⟨z1, y1, y2, y3⟩
  · rcases q2 with ⟨z2, q2⟩ | ⟨z2, _⟩
    · refine NwO_ev (by omega) (by omega) (by omega) (by omega) (by omega) (by omega) (by omega) q1 q2 (fun i hi => ?_)
      by_cases e0 : i = 0
      · subst e0
        show (if trN (σ1.2.2 44) c = 0 then 0 else L1 1) = (if trN (σ1.2.2 44) c = 0 then 0 else L2 1)
        rw [hL]
      · show (if i = 0 then _ else σ1.2.2 44 (i - 1)) = (if i = 0 then _ else σ2.2.2 44 (i - 1))
        rw [if_neg e0, if_neg e0]
        exact hA (i - 1) (by omega)
    · omega
  · rcases q2 with ⟨z2, _⟩ | ⟨z2, w1, w2, w3⟩
    · omega
    · exact KQ_er y3 w3 y2 w2
theorem SA_w {p q c i : Nat} {τ1 τ2 : MS} {x y : Int32} (h : SA σ1 σ2 p q c i τ1 τ2) (e : x = y) : SA σ1 σ2 p q c (i + 1) (mAr τ1 44 i x) (mAr τ2 44 i y) := by
  obtain ⟨a1, a2, a3, a4, a5, a6, a7, a8, a9, a10, a11⟩ := h
  refine ⟨NF_tr a1 (NF_ar (by omega)), NF_tr a2 (NF_ar (by omega)), a3, a4, a5, a6, a7, a8, ?_, ?_, ?_⟩
  · rw [mAr_o (by decide), mAr_o (by decide)]; exact a9
  · rw [mAr_o (by decide), mAr_o (by decide)]; exact a10
  · rw [mAr_s, mAr_s]; exact AgN_up a11 e
theorem SA_86 {p q c c' i : Nat} {τ1 τ2 : MS} (h : SA σ1 σ2 p q c i τ1 τ2) : SA σ1 σ2 p q c' i (mSc τ1 86 (nI c')) (mSc τ2 86 (nI c')) := by
  obtain ⟨a1, a2, a3, a4, a5, a6, a7, a8, a9, a10, a11⟩ := h
  exact ⟨NF_tr a1 (NF_sc (by omega)), NF_tr a2 (NF_sc (by omega)), a3, a4, a5, a6, rfl, rfl, a9, a10, a11⟩
theorem SA_end {p q c : Nat} {τ1 τ2 : MS} (h : SA σ1 σ2 p q c c τ1 τ2) (hS1 : HS g1 l1 B1 h1 σ1) (hS2 : HS g2 l2 B2 h2 σ2) (e1 : σ1.1 56 = 0) (e2 : σ2.1 56 = 0) (hr1 : h1 + 70 ≤ B1 + 870000) (hr2 : h2 + 70 ≤ B2 + 870000) (hc : c ≤ 300) {L1 L2 : Nat → Int32} (hL : L1 1 = L2 1) : Pm n (fun k => x_wholeOf k 0 L1 τ1) (fun k => x_wholeOf k 0 L2 τ2) (KQ h1 h2 70) := by
  obtain ⟨a1, a2, a3, a4, a5, a6, a7, a8, a9, a10, a11⟩ := h
  exact k_wholeOf (NF_HS a1 hS1) (NF_HS a2 hS2) ((a1.1 56 (by decide)).trans e1) ((a2.1 56 (by decide)).trans e2) hr1 hr2 hc a7 a8 a11 hL
theorem k_cmpR42 {p q : Nat} (hp : p ≤ 139) (hpq : p ≤ 139) (hq : q ≤ 139) (hA : AgN (σ1.2.2 42) (σ2.2.2 42) p) (hB : AgN (σ1.2.2 43) (σ2.2.2 43) q) {L1 L2 : Nat → Int32} (e1 : L1 1 = nI p) (e2 : L2 1 = nI p) (f1 : L1 3 = nI q) (f2 : L2 3 = nI q) : Pm n (fun k => x_compareRows__42__43 k 0 L1 σ1) (fun k => x_compareRows__42__43 k 0 L2 σ2) (fun r1 r2 => r1.1 = r2.1) := by
  have lp : ∀ (m i : Nat) (N1 N2 : Nat → Int32), i ≤ p → N1 4 = N2 4 → (N1 4 = 0 → p = q) → N1 5 = nI i - 1 → N2 5 = nI i - 1 → Pm m (fun k => x_compareRows__42__43 k 1 N1 σ1) (fun k => x_compareRows__42__43 k 1 N2 σ2) (fun r1 r2 => r1.1 = r2.1) := by
    intro m
    induction m using Nat.strongRecOn with
    | ind m ih =>
    intro i N1 N2 hi n4 hpq n5 o5
    have b2 : ∀ m', Pm m' (fun k => x_compareRows__42__43 k 2 N1 σ1) (fun k => x_compareRows__42__43 k 2 N2 σ2) (fun r1 r2 => r1.1 = r2.1) := fun m' => by
      refine Pm_suc rfl (fun k => by rw [x_compareRows__42__43]) (fun k => by rw [x_compareRows__42__43]) (fun m'' _ => ?_)
      exact Pm_some n4
    refine Pm_suc rfl (fun k => by rw [x_compareRows__42__43]) (fun k => by rw [x_compareRows__42__43]) (fun m1 hm1 => ?_)
    rw [n5, o5]
    refine Pm_ite Iff.rfl (fun _ _ => b2 m1) (fun z _ => ?_)
    refine Pm_ite (by rw [n4]) (fun z4 _ => ?_) (fun _ _ => b2 m1)
    have hi1 : 1 ≤ i := by
      by_cases e : i = 0
      · exact absurd (by rw [e]; decide) z
      · omega
    obtain ⟨j, rfl⟩ : ∃ j, i = j + 1 := ⟨i - 1, by omega⟩
    rw [show nI (j + 1) - 1 = nI j from n_sub1 (by omega), n_cl (p := j) (by omega)]
    have epq := hpq z4
    refine Pm_chk (fun _ _ => ?_)
    refine Pm_chk (fun _ _ => ?_)
    refine ih m1 (by omega) j _ _ (by omega) ?_ (fun _ => epq) ?_ ?_
    · show σ1.2.2 42 j - σ1.2.2 43 j = σ2.2.2 42 j - σ2.2.2 43 j
      rw [hA j (by omega), hB j (by omega)]
    · show nI j + (-1) = nI j - 1
      exact (Int32.sub_eq_add_neg _ _).symm
    · show nI j + (-1) = nI j - 1
      exact (Int32.sub_eq_add_neg _ _).symm
  refine Pm_suc rfl (fun k => by rw [x_compareRows__42__43]) (fun k => by rw [x_compareRows__42__43]) (fun m1 _ => ?_)
  rw [e1, e2, f1, f2]
  exact lp m1 p _ _ (Nat.le_refl _) rfl (fun z => (n_sub0 (by omega) (by omega)).mp z) rfl rfl
/-- sums: behind the loading -/
theorem k_add1 {p q : Nat} (hp : p ≤ 64) (hq : q ≤ 64) (hS1 : HS g1 l1 B1 h1 σ1) (hS2 : HS g2 l2 B2 h2 σ2) (e1 : σ1.1 56 = 0) (e2 : σ2.1 56 = 0) (hr1 : h1 + 70 ≤ B1 + 870000) (hr2 : h2 + 70 ≤ B2 + 870000) {τ1 τ2 : MS} {c0 : Nat} (hA : ∀ c, SA σ1 σ2 p q c 0 (mSc τ1 86 (nI c)) (mSc τ2 86 (nI c))) (t1 : τ1.1 84 = nI p) (t2 : τ2.1 84 = nI p) (u1 : τ1.1 85 = nI q) (u2 : τ2.1 85 = nI q) {L1 L2 : Nat → Int32} (hL : LE3 L1 L2) : Pm n (fun k => x_add k 1 L1 τ1) (fun k => x_add k 1 L2 τ2) (KQ h1 h2 70) := by
  -- the end
  have b15 : ∀ (m c : Nat) (N1 N2 : Nat → Int32) (υ1 υ2 : MS), c ≤ 65 → LE3 N1 N2 → SA σ1 σ2 p q c c υ1 υ2 → Pm m (fun k => x_add k 15 N1 υ1) (fun k => x_add k 15 N2 υ2) (KQ h1 h2 70) := by
    intro m c N1 N2 υ1 υ2 hc hN hs
    refine Pm_suc rfl (fun k => by rw [x_add]) (fun k => by rw [x_add]) (fun m1 _ => ?_)
    exact Pm_ob (SA_end hs hS1 hS2 e1 e2 hr1 hr2 (by omega) (by exact hN 100 (by omega))) (fun r1 r2 hr => Pm_some hr)
  have b13 : ∀ (m c : Nat) (N1 N2 : Nat → Int32) (υ1 υ2 : MS), c ≤ 65 → LE3 N1 N2 → SA σ1 σ2 p q c c υ1 υ2 → Pm m (fun k => x_add k 13 N1 υ1) (fun k => x_add k 13 N2 υ2) (KQ h1 h2 70) := by
    intro m c N1 N2 υ1 υ2 hc hN hs
    refine Pm_suc rfl (fun k => by rw [x_add]) (fun k => by rw [x_add]) (fun m1 _ => ?_)
    refine Pm_ite (by rw [hN 4 (by omega)]) (fun _ _ => b15 m1 c _ _ _ _ hc (LE_u hN (hN 5 (by omega))) hs) (fun _ _ => ?_)
    refine Pm_suc rfl (fun k => by rw [x_add]) (fun k => by rw [x_add]) (fun m2 _ => ?_)
    exact b15 m2 c _ _ _ _ hc (LE_u hN (hN 4 (by omega))) hs
  have b5 : ∀ (m c i : Nat) (N1 N2 : Nat → Int32) (υ1 υ2 : MS), c ≤ 64 → i ≤ c → LE3 N1 N2 → N1 7 = nI i → SA σ1 σ2 p q c i υ1 υ2 → Pm m (fun k => x_add k 5 N1 υ1) (fun k => x_add k 5 N2 υ2) (KQ h1 h2 70) := by
    intro m
    induction m using Nat.strongRecOn with
    | ind m ih =>
    intro c i N1 N2 υ1 υ2 hc hi hN n7 hs
    have o7 : N2 7 = nI i := (hN 7 (by omega)).symm.trans n7
    obtain ⟨a1, a2, a3, a4, a5, a6, a7, a8, a9, a10, a11⟩ := hs
    have hs : SA σ1 σ2 p q c i υ1 υ2 := ⟨a1, a2, a3, a4, a5, a6, a7, a8, a9, a10, a11⟩
    -- one limb
    have b9 : ∀ (m' : Nat) (M1 M2 : Nat → Int32), m' < m → i < c → LE3 M1 M2 → M1 7 = nI i → Pm m' (fun k => x_add k 9 M1 υ1) (fun k => x_add k 9 M2 υ2) (KQ h1 h2 70) := by
      intro m' M1 M2 hm' hic hM m7
      have w7 : M2 7 = nI i := (hM 7 (by omega)).symm.trans m7
      have ex : M1 102 + (M1 101 + M1 100) = M2 102 + (M2 101 + M2 100) := by rw [hM 102 (by omega), hM 101 (by omega), hM 100 (by omega)]
      refine Pm_suc rfl (fun k => by rw [x_add]) (fun k => by rw [x_add]) (fun m1 h1' => ?_)
      rw [m7, w7, n_cl (p := i) (by omega)]
      refine Pm_chk (fun _ _ => ?_)
      show Pm m1 (fun k => x_add k 10 (upd M1 6 (M1 102 + (M1 101 + M1 100))) (mAr υ1 44 i ((M1 102 + (M1 101 + M1 100)) &&& 65535))) (fun k => x_add k 10 (upd M2 6 (M2 102 + (M2 101 + M2 100))) (mAr υ2 44 i ((M2 102 + (M2 101 + M2 100)) &&& 65535))) _
      refine Pm_suc rfl (fun k => by rw [x_add]) (fun k => by rw [x_add]) (fun m2 h2' => ?_)
      refine ih m2 (by omega) c (i + 1) _ _ _ _ hc (by omega) (LE_u (LE_u (LE_u hM ex) ?_) ?_) ?_ (SA_w hs (by rw [ex]))
      · show (M1 102 + (M1 101 + M1 100)) >>> _ = (M2 102 + (M2 101 + M2 100)) >>> _
        rw [ex]
      · show M1 7 + 1 = M2 7 + 1
        rw [m7, w7]
      · show M1 7 + 1 = nI (i + 1)
        rw [m7, n_add1]
    have b7 : ∀ (m' : Nat) (M1 M2 : Nat → Int32), m' < m → i < c → LE3 M1 M2 → M1 7 = nI i → Pm m' (fun k => x_add k 7 M1 υ1) (fun k => x_add k 7 M2 υ2) (KQ h1 h2 70) := by
      intro m' M1 M2 hm' hic hM m7
      have w7 : M2 7 = nI i := (hM 7 (by omega)).symm.trans m7
      refine Pm_suc rfl (fun k => by rw [x_add]) (fun k => by rw [x_add]) (fun m1 h1' => ?_)
      rw [a5, a6, m7, w7, n_cl (p := i) (by omega)]
      refine Pm_ite Iff.rfl (fun _ _ => ?_) (fun y _ => ?_)
      · refine Pm_suc rfl (fun k => by rw [x_add]) (fun k => by rw [x_add]) (fun m2 h2' => ?_)
        have hM' : LE3 (upd (upd M1 100 (M1 100)) 101 (M1 101)) (upd (upd M2 100 (M2 100)) 101 (M2 101)) := LE_u (LE_u hM (hM 100 (by omega))) (hM 101 (by omega))
        exact b9 m2 _ _ (by omega) hic (LE_u (LE_u (LE_u hM' rfl) (hM' 100 (by omega))) (hM' 101 (by omega))) m7
      · have hiq : i < q := by
          by_cases e : q ≤ i
          · exact absurd ((n_le (by omega) (by omega)).mpr e) y
          · omega
        refine Pm_chk (fun _ _ => ?_)
        exact b9 m1 _ _ (by omega) hic (LE_u (LE_u (LE_u hM (a10 i hiq)) (hM 100 (by omega))) (hM 101 (by omega))) m7
    refine Pm_suc rfl (fun k => by rw [x_add]) (fun k => by rw [x_add]) (fun m1 hm1 => ?_)
    rw [a7, a8, a3, a4, n7, o7, n_cl (p := i) (by omega)]
    refine Pm_ite Iff.rfl (fun y _ => ?_) (fun y _ => ?_)
    · have y := (n_le (by omega) (by omega)).mp y
      have ei : i = c := by omega
      subst ei
      refine Pm_suc rfl (fun k => by rw [x_add]) (fun k => by rw [x_add]) (fun m2 hm2 => ?_)
      rw [a7, a8, n_cl (p := i) (by omega)]
      refine Pm_ite (by rw [hN 6 (by omega)]) (fun _ _ => b13 m2 i _ _ _ _ (by omega) hN hs) (fun _ _ => ?_)
      refine Pm_chk (fun _ _ => ?_)
      show Pm m2 (fun k => x_add k 12 N1 (mAr υ1 44 i (N1 6))) (fun k => x_add k 12 N2 (mAr υ2 44 i (N2 6))) _
      refine Pm_suc rfl (fun k => by rw [x_add]) (fun k => by rw [x_add]) (fun m3 hm3 => ?_)
      have hs2 := SA_86 (c' := i + 1) (SA_w hs (hN 6 (by omega)))
      rw [show (mAr υ1 44 i (N1 6)).1 86 + 1 = nI (i + 1) by show υ1.1 86 + 1 = _; rw [a7, n_add1], show (mAr υ2 44 i (N2 6)).1 86 + 1 = nI (i + 1) by show υ2.1 86 + 1 = _; rw [a8, n_add1]]
      exact b13 m3 (i + 1) _ _ _ _ (by omega) hN hs2
    have hic : i < c := by
      by_cases e : c ≤ i
      · exact absurd ((n_le (by omega) (by omega)).mpr e) y
      · omega
    refine Pm_ite Iff.rfl (fun _ _ => ?_) (fun y _ => ?_)
    · refine Pm_suc rfl (fun k => by rw [x_add]) (fun k => by rw [x_add]) (fun m2 hm2 => ?_)
      have hM' : LE3 (upd N1 100 (N1 6)) (upd N2 100 (N2 6)) := LE_u hN (hN 6 (by omega))
      exact b7 m2 _ _ (by omega) hic (LE_u (LE_u hM' rfl) (hM' 100 (by omega))) n7
    · have hip : i < p := by
        by_cases e : p ≤ i
        · exact absurd ((n_le (by omega) (by omega)).mpr e) y
        · omega
      refine Pm_chk (fun _ _ => ?_)
      exact b7 m1 _ _ (by omega) hic (LE_u (LE_u hN (a9 i hip)) (hN 6 (by omega))) n7
  have b3 : ∀ (m c : Nat) (N1 N2 : Nat → Int32), c ≤ 64 → LE3 N1 N2 → N1 100 = nI c → Pm m (fun k => x_add k 3 N1 τ1) (fun k => x_add k 3 N2 τ2) (KQ h1 h2 70) := by
    intro m c N1 N2 hc hN n100
    refine Pm_suc rfl (fun k => by rw [x_add]) (fun k => by rw [x_add]) (fun m1 _ => ?_)
    rw [n100, ← hN 100 (by omega), n100]
    show Pm m1 (fun k => x_add k 4 N1 (mSc τ1 86 (nI c))) (fun k => x_add k 4 N2 (mSc τ2 86 (nI c))) _
    refine Pm_suc rfl (fun k => by rw [x_add]) (fun k => by rw [x_add]) (fun m2 _ => ?_)
    exact b5 m2 c 0 _ _ _ _ hc (Nat.zero_le _) (LE_u hN rfl) rfl (hA c)
  refine Pm_suc rfl (fun k => by rw [x_add]) (fun k => by rw [x_add]) (fun m1 _ => ?_)
  rw [t1, t2, u1, u2]
  refine Pm_ite Iff.rfl (fun _ _ => ?_) (fun _ _ => b3 m1 p _ _ hp (LE_u (LE_u hL rfl) rfl) rfl)
  refine Pm_suc rfl (fun k => by rw [x_add]) (fun k => by rw [x_add]) (fun m2 _ => ?_)
  rw [u1, u2]
  exact b3 m2 q _ _ hq (LE_u (LE_u hL rfl) rfl) rfl
end KAD
end JnS158
section JnS159
/-! Two runs side by side (reference): differences; add. -/
/-- two wholes that hold the same -/
def WhE (σ1 σ2 : MS) (a1 a2 p : Nat) : Prop := Wh σ1 a1 p ∧ Wh σ2 a2 p ∧ ∀ i, i < p → σ2.2.2 28 (a2 + 4 + i) = σ1.2.2 28 (a1 + 4 + i)
section KSB
variable {g1 g2 : Nat → Prop} {l1 l2 : List Nat} {B1 h1 B2 h2 n : Nat} {σ1 σ2 : MS}
theorem WhE_of (hS1 : HS g1 l1 B1 h1 σ1) (hS2 : HS g2 l2 B2 h2 σ2) {a1 a2 : Nat} (ha1 : a1 < 3 ∨ g1 a1) (ha2 : a2 < 3 ∨ g2 a2) (hv : EVb (σ1.2.2 28) (σ2.2.2 28) a1 a2) (hk : kdN (σ1.2.2 28) a1 = 2) : ∃ p, WhE σ1 σ2 a1 a2 p := by
  obtain ⟨p, w1⟩ := Wh_of hS1 ha1 hk
  obtain ⟨q, w2⟩ := Wh_of hS2 ha2 (by rw [(EVb_sz hv).2.2]; exact hk)
  have ga := kdN_ge hS1 ha1 (by omega)
  obtain ⟨k, p', ga2, c3, c4, k6, hp', k2, kk, ka1, ka2, pa1, pa2, _, _⟩ := EVb_ob hS1 hS2 ga hv ha2
  have e1 : p' = p := (n_eq (by omega) (by have := w1.2.2.1; omega)).mp (pa1.symm.trans w1.1)
  have e2 : p' = q := (n_eq (by omega) (by have := w2.2.2.1; omega)).mp (pa2.symm.trans w2.1)
  subst e1
  subst e2
  have ek : k = 2 := kk.symm.trans hk
  subst ek
  exact ⟨p', w1, w2, fun i hi => EVb_raw hv c3 (by rw [ka1]; decide) pa1 hp' hi⟩
theorem WhE_NF {τ1 τ2 : MS} {a1 a2 p : Nat} (n1 : NF σ1 τ1) (n2 : NF σ2 τ2) (h : WhE σ1 σ2 a1 a2 p) : WhE τ1 τ2 a1 a2 p := by
  refine ⟨Wh_NF n1 h.1, Wh_NF n2 h.2.1, fun i hi => ?_⟩
  rw [n1.2 28 (by decide), n2.2 28 (by decide)]; exact h.2.2 i hi
theorem k_sub16 {p q : Nat} (hp : p ≤ 64) (hq : q ≤ 64) (hS1 : HS g1 l1 B1 h1 σ1) (hS2 : HS g2 l2 B2 h2 σ2) (e1 : σ1.1 56 = 0) (e2 : σ2.1 56 = 0) (hr1 : h1 + 70 ≤ B1 + 870000) (hr2 : h2 + 70 ≤ B2 + 870000) {τ1 τ2 : MS} (hA : ∀ c, SA σ1 σ2 p q c 0 (mSc τ1 86 (nI c)) (mSc τ2 86 (nI c))) (t1 : τ1.1 84 = nI p) (t2 : τ2.1 84 = nI p) (u1 : τ1.1 85 = nI q) (u2 : τ2.1 85 = nI q) {L1 L2 : Nat → Int32} (hL : LE3 L1 L2) : Pm n (fun k => x_add k 16 L1 τ1) (fun k => x_add k 16 L2 τ2) (KQ h1 h2 70) := by
  have b32 : ∀ (m c : Nat) (N1 N2 : Nat → Int32) (υ1 υ2 : MS), c ≤ 65 → LE3 N1 N2 → SA σ1 σ2 p q c c υ1 υ2 → Pm m (fun k => x_add k 32 N1 υ1) (fun k => x_add k 32 N2 υ2) (KQ h1 h2 70) := by
    intro m c N1 N2 υ1 υ2 hc hN hs
    refine Pm_suc rfl (fun k => by rw [x_add]) (fun k => by rw [x_add]) (fun m1 _ => ?_)
    exact Pm_ob (SA_end hs hS1 hS2 e1 e2 hr1 hr2 (by omega) (by exact hN 100 (by omega))) (fun r1 r2 hr => Pm_some hr)
  have b20 : ∀ (m c i : Nat) (N1 N2 : Nat → Int32) (υ1 υ2 : MS), c ≤ 64 → i ≤ c → LE3 N1 N2 → N1 8 = nI i → SA σ1 σ2 p q c i υ1 υ2 → Pm m (fun k => x_add k 20 N1 υ1) (fun k => x_add k 20 N2 υ2) (KQ h1 h2 70) := by
    intro m
    induction m using Nat.strongRecOn with
    | ind m ih =>
    intro c i N1 N2 υ1 υ2 hc hi hN n8 hs
    have o8 : N2 8 = nI i := (hN 8 (by omega)).symm.trans n8
    obtain ⟨a1, a2, a3, a4, a5, a6, a7, a8, a9, a10, a11⟩ := hs
    have hs : SA σ1 σ2 p q c i υ1 υ2 := ⟨a1, a2, a3, a4, a5, a6, a7, a8, a9, a10, a11⟩
    have b28 : ∀ (m' : Nat) (M1 M2 : Nat → Int32), m' < m → i < c → LE3 M1 M2 → M1 8 = nI i → Pm m' (fun k => x_add k 28 M1 υ1) (fun k => x_add k 28 M2 υ2) (KQ h1 h2 70) := by
      intro m' M1 M2 hm' hic hM m8
      have w8 : M2 8 = nI i := (hM 8 (by omega)).symm.trans m8
      refine Pm_suc rfl (fun k => by rw [x_add]) (fun k => by rw [x_add]) (fun m1 h1' => ?_)
      rw [m8, w8, n_cl (p := i) (by omega)]
      refine Pm_chk (fun _ _ => ?_)
      show Pm m1 (fun k => x_add k 29 (upd M1 7 (M1 100)) (mAr υ1 44 i (M1 11 &&& 65535))) (fun k => x_add k 29 (upd M2 7 (M2 100)) (mAr υ2 44 i (M2 11 &&& 65535))) _
      refine Pm_suc rfl (fun k => by rw [x_add]) (fun k => by rw [x_add]) (fun m2 h2' => ?_)
      refine ih m2 (by omega) c (i + 1) _ _ _ _ hc (by omega) (LE_u (LE_u hM (hM 100 (by omega))) ?_) ?_ (SA_w hs (by rw [hM 11 (by omega)]))
      · show M1 8 + 1 = M2 8 + 1
        rw [m8, w8]
      · show M1 8 + 1 = nI (i + 1)
        rw [m8, n_add1]
    have b26 : ∀ (m' : Nat) (M1 M2 : Nat → Int32), m' < m → i < c → LE3 M1 M2 → M1 8 = nI i → Pm m' (fun k => x_add k 26 M1 υ1) (fun k => x_add k 26 M2 υ2) (KQ h1 h2 70) := by
      intro m' M1 M2 hm' hic hM m8
      have ex : M1 100 - M1 7 = M2 100 - M2 7 := by rw [hM 100 (by omega), hM 7 (by omega)]
      refine Pm_suc rfl (fun k => by rw [x_add]) (fun k => by rw [x_add]) (fun m1 h1' => ?_)
      refine Pm_ite (by rw [ex]) (fun _ _ => ?_) (fun _ _ => b28 m1 _ _ (by omega) hic (LE_u (LE_u hM ex) rfl) m8)
      refine Pm_suc rfl (fun k => by rw [x_add]) (fun k => by rw [x_add]) (fun m2 h2' => ?_)
      exact b28 m2 _ _ (by omega) hic (LE_u (LE_u hM ex) rfl) m8
    have b24 : ∀ (m' : Nat) (M1 M2 : Nat → Int32), m' < m → i < c → LE3 M1 M2 → M1 8 = nI i → Pm m' (fun k => x_add k 24 M1 υ1) (fun k => x_add k 24 M2 υ2) (KQ h1 h2 70) := by
      intro m' M1 M2 hm' hic hM m8
      have hM' : LE3 (upd M1 10 (M1 100)) (upd M2 10 (M2 100)) := LE_u hM (hM 100 (by omega))
      refine Pm_suc rfl (fun k => by rw [x_add]) (fun k => by rw [x_add]) (fun m1 h1' => ?_)
      refine Pm_ite (by rw [hM 6 (by omega)]) (fun _ _ => ?_) (fun _ _ => b26 m1 _ _ (by omega) hic (LE_u hM' (by rw [hM 9 (by omega), hM 100 (by omega)])) m8)
      refine Pm_suc rfl (fun k => by rw [x_add]) (fun k => by rw [x_add]) (fun m2 h2' => ?_)
      exact b26 m2 _ _ (by omega) hic (LE_u hM' (by rw [hM' 10 (by omega), hM' 9 (by omega)])) m8
    have b22 : ∀ (m' : Nat) (M1 M2 : Nat → Int32), m' < m → i < c → LE3 M1 M2 → M1 8 = nI i → Pm m' (fun k => x_add k 22 M1 υ1) (fun k => x_add k 22 M2 υ2) (KQ h1 h2 70) := by
      intro m' M1 M2 hm' hic hM m8
      have w8 : M2 8 = nI i := (hM 8 (by omega)).symm.trans m8
      have hM' : LE3 (upd M1 9 (M1 100)) (upd M2 9 (M2 100)) := LE_u hM (hM 100 (by omega))
      refine Pm_suc rfl (fun k => by rw [x_add]) (fun k => by rw [x_add]) (fun m1 h1' => ?_)
      rw [a5, a6, m8, w8, n_cl (p := i) (by omega)]
      refine Pm_ite Iff.rfl (fun _ _ => ?_) (fun y _ => ?_)
      · refine Pm_suc rfl (fun k => by rw [x_add]) (fun k => by rw [x_add]) (fun m2 h2' => ?_)
        exact b24 m2 _ _ (by omega) hic (LE_u hM' rfl) m8
      · have hiq : i < q := by
          by_cases e : q ≤ i
          · exact absurd ((n_le (by omega) (by omega)).mpr e) y
          · omega
        refine Pm_chk (fun _ _ => ?_)
        exact b24 m1 _ _ (by omega) hic (LE_u hM' (a10 i hiq)) m8
    refine Pm_suc rfl (fun k => by rw [x_add]) (fun k => by rw [x_add]) (fun m1 hm1 => ?_)
    rw [a7, a8, a3, a4, n8, o8, n_cl (p := i) (by omega)]
    refine Pm_ite Iff.rfl (fun y _ => ?_) (fun y _ => ?_)
    · have y := (n_le (by omega) (by omega)).mp y
      have ei : i = c := by omega
      subst ei
      refine Pm_suc rfl (fun k => by rw [x_add]) (fun k => by rw [x_add]) (fun m2 hm2 => ?_)
      refine Pm_ite (by rw [hN 6 (by omega)]) (fun _ _ => ?_) (fun _ _ => b32 m2 i _ _ _ _ (by omega) (LE_u hN (hN 4 (by omega))) hs)
      refine Pm_suc rfl (fun k => by rw [x_add]) (fun k => by rw [x_add]) (fun m3 hm3 => ?_)
      exact b32 m3 i _ _ _ _ (by omega) (LE_u hN (hN 5 (by omega))) hs
    have hic : i < c := by
      by_cases e : c ≤ i
      · exact absurd ((n_le (by omega) (by omega)).mpr e) y
      · omega
    refine Pm_ite Iff.rfl (fun _ _ => ?_) (fun y _ => ?_)
    · refine Pm_suc rfl (fun k => by rw [x_add]) (fun k => by rw [x_add]) (fun m2 hm2 => ?_)
      exact b22 m2 _ _ (by omega) hic (LE_u hN rfl) n8
    · have hip : i < p := by
        by_cases e : p ≤ i
        · exact absurd ((n_le (by omega) (by omega)).mpr e) y
        · omega
      refine Pm_chk (fun _ _ => ?_)
      exact b22 m1 _ _ (by omega) hic (LE_u hN (a9 i hip)) n8
  have b18 : ∀ (m c : Nat) (N1 N2 : Nat → Int32), c ≤ 64 → LE3 N1 N2 → N1 100 = nI c → Pm m (fun k => x_add k 18 N1 τ1) (fun k => x_add k 18 N2 τ2) (KQ h1 h2 70) := by
    intro m c N1 N2 hc hN n100
    refine Pm_suc rfl (fun k => by rw [x_add]) (fun k => by rw [x_add]) (fun m1 _ => ?_)
    rw [n100, ← hN 100 (by omega), n100]
    show Pm m1 (fun k => x_add k 19 N1 (mSc τ1 86 (nI c))) (fun k => x_add k 19 N2 (mSc τ2 86 (nI c))) _
    refine Pm_suc rfl (fun k => by rw [x_add]) (fun k => by rw [x_add]) (fun m2 _ => ?_)
    exact b20 m2 c 0 _ _ _ _ hc (Nat.zero_le _) (LE_u (LE_u hN rfl) rfl) rfl (hA c)
  have hA0 := hA 0
  obtain ⟨_, _, _, _, _, _, _, _, a9, a10, _⟩ := hA0
  have a9 : AgN (τ1.2.2 42) (τ2.2.2 42) p := a9
  have a10 : AgN (τ1.2.2 43) (τ2.2.2 43) q := a10
  refine Pm_suc rfl (fun k => by rw [x_add]) (fun k => by rw [x_add]) (fun m1 _ => ?_)
  rw [t1, t2, u1, u2]
  refine Pm_ob (Pm_un (s_cmpR42 (n := p) (by omega) rfl) (fun k => f_compareRows__42__43 k _ _ _) (s_cmpR42 (n := p) (by omega) rfl) (fun k => f_compareRows__42__43 k _ _ _) (k_cmpR42 (p := p) (q := q) (by omega) (by omega) (by omega) a9 a10 rfl rfl rfl rfl)) (fun r1 r2 hr => ?_)
  obtain ⟨hr0, hr1, hr2⟩ := hr
  rw [hr0, hr1, hr2, t1, t2, u1, u2]
  refine Pm_ite Iff.rfl (fun _ _ => ?_) (fun _ _ => b18 m1 p _ _ hp (LE_u (LE_u hL rfl) rfl) rfl)
  refine Pm_suc rfl (fun k => by rw [x_add]) (fun k => by rw [x_add]) (fun m2 _ => ?_)
  rw [u1, u2]
  exact b18 m2 q _ _ hq (LE_u (LE_u hL rfl) rfl) rfl
/-- a whole is loaded on both sides -/
theorem k_loadA {a1 a2 p : Nat} (hS1 : HS g1 l1 B1 h1 σ1) (hS2 : HS g2 l2 B2 h2 σ2) (hW : WhE σ1 σ2 a1 a2 p) {L1 L2 : Nat → Int32} (e1 : L1 1 = nI a1) (e2 : L2 1 = nI a2) : Pm n (fun k => x_loadA k 0 L1 σ1) (fun k => x_loadA k 0 L2 σ2) (fun r1 r2 => NF σ1 r1.2 ∧ NF σ2 r2.2 ∧ r1.2.1 84 = nI (p - 1) ∧ r2.2.1 84 = nI (p - 1) ∧ AgN (r1.2.2.2 42) (r2.2.2.2 42) (p - 1)) := by
  obtain ⟨w1, w2, w3⟩ := hW
  refine Pm_mono (Pm_u2 (Um_and (Um_t (s_loadA hS1 w1.1 w1.2.1 w1.2.2.1 w1.2.2.2.1 w1.2.2.2.2 e1) (fun k => f_loadA k _ _ _)) (u_loadA w1 e1)) (Um_and (Um_t (s_loadA hS2 w2.1 w2.2.1 w2.2.2.1 w2.2.2.2.1 w2.2.2.2.2 e2) (fun k => f_loadA k _ _ _)) (u_loadA w2 e2))) (fun r1 r2 hr => ?_)
  obtain ⟨⟨⟨q1, q2, _⟩, q3⟩, ⟨⟨q4, q5, _⟩, q6⟩⟩ := hr
  refine ⟨q1, q4, q2, q5, fun i hi => ?_⟩
  rw [q3 i hi, q6 i hi, show a2 + 5 + i = a2 + 4 + (i + 1) by omega, w3 (i + 1) (by omega), show a1 + 4 + (i + 1) = a1 + 5 + i by omega]
theorem k_loadB {a1 a2 p : Nat} (hS1 : HS g1 l1 B1 h1 σ1) (hS2 : HS g2 l2 B2 h2 σ2) (hW : WhE σ1 σ2 a1 a2 p) {L1 L2 : Nat → Int32} (e1 : L1 1 = nI a1) (e2 : L2 1 = nI a2) : Pm n (fun k => x_loadB k 0 L1 σ1) (fun k => x_loadB k 0 L2 σ2) (fun r1 r2 => NF σ1 r1.2 ∧ NF σ2 r2.2 ∧ r1.2.1 85 = nI (p - 1) ∧ r2.2.1 85 = nI (p - 1) ∧ AgN (r1.2.2.2 43) (r2.2.2.2 43) (p - 1) ∧ r1.2.2.2 42 = σ1.2.2 42 ∧ r2.2.2.2 42 = σ2.2.2 42 ∧ r1.2.1 84 = σ1.1 84 ∧ r2.2.1 84 = σ2.1 84) := by
  obtain ⟨w1, w2, w3⟩ := hW
  refine Pm_mono (Pm_u2 (Um_and (Um_t (s_loadB hS1 w1.1 w1.2.1 w1.2.2.1 w1.2.2.2.1 w1.2.2.2.2 e1) (fun k => f_loadB k _ _ _)) (u_loadB w1 e1)) (Um_and (Um_t (s_loadB hS2 w2.1 w2.2.1 w2.2.2.1 w2.2.2.2.1 w2.2.2.2.2 e2) (fun k => f_loadB k _ _ _)) (u_loadB w2 e2))) (fun r1 r2 hr => ?_)
  obtain ⟨⟨⟨q1, q2, _, x1, x2⟩, q3⟩, ⟨⟨q4, q5, _, x3, x4⟩, q6⟩⟩ := hr
  refine ⟨q1, q4, q2, q5, fun i hi => ?_, x1, x3, x2, x4⟩
  rw [q3 i hi, q6 i hi, show a2 + 5 + i = a2 + 4 + (i + 1) by omega, w3 (i + 1) (by omega), show a1 + 4 + (i + 1) = a1 + 5 + i by omega]
theorem k_signOf {a1 a2 p : Nat} (hS1 : HS g1 l1 B1 h1 σ1) (hS2 : HS g2 l2 B2 h2 σ2) (hW : WhE σ1 σ2 a1 a2 p) {L1 L2 : Nat → Int32} (e1 : L1 1 = nI a1) (e2 : L2 1 = nI a2) : Pm n (fun k => x_signOf k 0 L1 σ1) (fun k => x_signOf k 0 L2 σ2) (fun r1 r2 => r1 = (σ1.2.2 28 (a1 + 4), σ1) ∧ r2 = (σ1.2.2 28 (a1 + 4), σ2)) := by
  obtain ⟨w1, w2, w3⟩ := hW
  have c0 := w3 0 (by have := w1.2.1; omega)
  refine Pm_mono (Pm_t2 (s_signOf hS1 (m := a1) (by have := w1.2.2.2.1; have := w1.2.1; omega) e1) (fun k => f_signOf k _ _ _) (s_signOf hS2 (m := a2) (by have := w2.2.2.2.1; have := w2.2.1; omega) e2) (fun k => f_signOf k _ _ _)) (fun r1 r2 z => ⟨z.1, by rw [z.2, show a2 + 4 = a2 + 4 + 0 from rfl, c0]⟩)
theorem k_add {a1 a2 b1 b2 p q : Nat} (hS1 : HS g1 l1 B1 h1 σ1) (hS2 : HS g2 l2 B2 h2 σ2) (e1 : σ1.1 56 = 0) (e2 : σ2.1 56 = 0) (hr1 : h1 + 70 ≤ B1 + 870000) (hr2 : h2 + 70 ≤ B2 + 870000) (hA : WhE σ1 σ2 a1 a2 p) (hB : WhE σ1 σ2 b1 b2 q) {L1 L2 : Nat → Int32} (d1 : L1 1 = nI a1) (d2 : L1 2 = nI b1) (f1 : L2 1 = nI a2) (f2 : L2 2 = nI b2) (hL : LE3 L1 L2) : Pm n (fun k => x_add k 0 L1 σ1) (fun k => x_add k 0 L2 σ2) (KQ h1 h2 70) := by
  have hp := hA.1.2.2.1
  have hq := hB.1.2.2.1
  refine Pm_suc rfl (fun k => by rw [x_add]) (fun k => by rw [x_add]) (fun m1 _ => ?_)
  refine Pm_ob (k_loadA hS1 hS2 hA (by exact d1) (by exact f1)) (fun r1 r2 hr => ?_)
  obtain ⟨q1, q2, q3, q4, q5⟩ := hr
  have hT1 := NF_HS q1 hS1
  have hT2 := NF_HS q2 hS2
  refine Pm_ob (k_loadB hT1 hT2 (WhE_NF q1 q2 hB) (by exact d2) (by exact f2)) (fun s1 s2 hs => ?_)
  obtain ⟨w1, w2, w3, w4, w5, w6, w7, w8, w9⟩ := hs
  have n1 := NF_tr q1 w1
  have n2 := NF_tr q2 w2
  have hU1 := NF_HS n1 hS1
  have hU2 := NF_HS n2 hS2
  refine Pm_ob (k_signOf hU1 hU2 (WhE_NF n1 n2 hA) (by exact d1) (by exact f1)) (fun x1 x2 hx => ?_)
  rw [hx.1, hx.2]
  refine Pm_ob (k_signOf hU1 hU2 (WhE_NF n1 n2 hB) (by exact d2) (by exact f2)) (fun y1 y2 hy => ?_)
  rw [hy.1, hy.2]
  generalize hsa : s1.2.2.2 28 (a1 + 4) = sa
  generalize hsb : s1.2.2.2 28 (b1 + 4) = sb
  have hLx : LE3 (upd (upd L1 4 sa) 5 (sb * L1 3)) (upd (upd L2 4 sa) 5 (sb * L2 3)) := LE_u (LE_u hL rfl) (by rw [hL 3 (by omega)])
  have hSA : ∀ c, SA σ1 σ2 (p - 1) (q - 1) c 0 (mSc s1.2 86 (nI c)) (mSc s2.2 86 (nI c)) := fun c => by
    refine ⟨NF_tr n1 (NF_sc (by omega)), NF_tr n2 (NF_sc (by omega)), w8.trans q3, w9.trans q4, w3, w4, rfl, rfl, ?_, w5, fun i hi => absurd hi (Nat.not_lt_zero i)⟩
    show AgN (s1.2.2.2 42) (s2.2.2.2 42) _
    rw [w6, w7]; exact q5
  have go1 := fun m => k_add1 (n := m) (p := p - 1) (q := q - 1) (c0 := 0) (by omega) (by omega) hS1 hS2 e1 e2 hr1 hr2 hSA (w8.trans q3) (w9.trans q4) w3 w4 hLx
  have go16 := fun m => k_sub16 (n := m) (p := p - 1) (q := q - 1) (by omega) (by omega) hS1 hS2 e1 e2 hr1 hr2 hSA (w8.trans q3) (w9.trans q4) w3 w4 hLx
  refine Pm_ite Iff.rfl (fun _ _ => go1 m1) (fun _ _ => ?_)
  refine Pm_ite (by rw [hL 3 (by omega)]) (fun _ _ => go1 m1) (fun _ _ => ?_)
  exact Pm_ite (by rw [hL 3 (by omega)]) (fun _ _ => go1 m1) (fun _ _ => go16 m1)
end KSB
end JnS159
section JnS160
/-! Two runs side by side (reference): products (made by mul2.py). -/
section KMU
variable {g1 g2 : Nat → Prop} {l1 l2 : List Nat} {B1 h1 B2 h2 n : Nat} {σ1 σ2 : MS}
/-- rows are multiplied: p rows of 42, q of 43 -/
theorem k_multiply2 {p q : Nat} (hp : p ≤ 128) (hq : q ≤ 128) {Q : Int32 × MS → Int32 × MS → Prop} {τ1 τ2 : MS} (n1 : NF σ1 τ1) (n2 : NF σ2 τ2) (p1 : τ1.1 84 = nI p) (p2 : τ2.1 84 = nI p) (q1 : τ1.1 85 = nI q) (q2 : τ2.1 85 = nI q) (c1 : τ1.1 86 = nI (p + q)) (c2 : τ2.1 86 = nI (p + q)) (hA : AgN (τ1.2.2 42) (τ2.2.2 42) p) (hB : AgN (τ1.2.2 43) (τ2.2.2 43) q) {L1 L2 : Nat → Int32} {J1 J2 : Nat → Int64} 
    (hQ : ∀ (m : Nat) (N1 N2 : Nat → Int32) (K1 K2 : Nat → Int64) (υ1 υ2 : MS), NF σ1 υ1 → NF σ2 υ2 → υ1.1 86 = nI (p + q) → υ2.1 86 = nI (p + q) → AgN (υ1.2.2 44) (υ2.2.2 44) (p + q) → (∀ j, j ≠ 44 → υ1.2.2 j = τ1.2.2 j) → (∀ j, j ≠ 44 → υ2.2.2 j = τ2.2.2 j) → (∀ j, υ1.1 j = τ1.1 j) → (∀ j, υ2.1 j = τ2.1 j) → N1 1 = L1 1 → N2 1 = L2 1 → (N1 2 = L1 2 ∧ N2 2 = L2 2) → Pm m (fun k => x_multiply k 10 N1 K1 υ1) (fun k => x_multiply k 10 N2 K2 υ2) Q) : Pm n (fun k => x_multiply k 1 L1 J1 τ1) (fun k => x_multiply k 1 L2 J2 τ2) Q := by
  -- the state within
  have b5 : ∀ (m i : Nat) (N1 N2 : Nat → Int32) (K1 K2 : Nat → Int64) (υ1 υ2 : MS), i ≤ p → N1 3 = nI i → N2 3 = nI i → N1 1 = L1 1 → N2 1 = L2 1 → (N1 2 = L1 2 ∧ N2 2 = L2 2) → NF σ1 υ1 → NF σ2 υ2 → AgN (υ1.2.2 44) (υ2.2.2 44) (p + q) → (∀ j, j ≠ 44 → υ1.2.2 j = τ1.2.2 j) → (∀ j, j ≠ 44 → υ2.2.2 j = τ2.2.2 j) → (∀ j, υ1.1 j = τ1.1 j) → (∀ j, υ2.1 j = τ2.1 j) → Pm m (fun k => x_multiply k 5 N1 K1 υ1) (fun k => x_multiply k 5 N2 K2 υ2) Q := by
    intro m
    induction m using Nat.strongRecOn with
    | ind m ih =>
    intro i N1 N2 K1 K2 υ1 υ2 hi i1 i2 x1 x2 xk m1 m2 hC a1 a2 s1 s2
    have b6 : i < p → ∀ (m' j : Nat) (M1 M2 : Nat → Int32) (U1 U2 : Nat → Int64) (ω1 ω2 : MS), m' < m → j ≤ q → M1 3 = nI i → M2 3 = nI i → M1 6 = nI j → M2 6 = nI j → M1 1 = L1 1 → M2 1 = L2 1 → (M1 2 = L1 2 ∧ M2 2 = L2 2) → U1 4 = U2 4 → NF σ1 ω1 → NF σ2 ω2 → AgN (ω1.2.2 44) (ω2.2.2 44) (p + q) → (∀ j, j ≠ 44 → ω1.2.2 j = τ1.2.2 j) → (∀ j, j ≠ 44 → ω2.2.2 j = τ2.2.2 j) → (∀ j, ω1.1 j = τ1.1 j) → (∀ j, ω2.1 j = τ2.1 j) → Pm m' (fun k => x_multiply k 6 M1 U1 ω1) (fun k => x_multiply k 6 M2 U2 ω2) Q := by
      intro hip m'
      induction m' using Nat.strongRecOn with
      | ind m' ihj =>
      intro j M1 M2 U1 U2 ω1 ω2 hm' hj i1 i2 j1 j2 x1 x2 xk hU m1 m2 hC a1 a2 s1 s2
      refine Pm_suc rfl (fun k => by rw [x_multiply]) (fun k => by rw [x_multiply]) (fun k1 hk1 => ?_)
      rw [s1 85, s2 85, q1, q2, i1, i2, j1, j2, n_add (p := i) (q := j) (by omega), n_cl (p := i + j) (by omega), n_cl (p := i) (by omega), n_cl (p := j) (by omega)]
      refine Pm_ite Iff.rfl (fun _ _ => ?_) (fun y _ => ?_)
      · refine Pm_suc rfl (fun k => by rw [x_multiply]) (fun k => by rw [x_multiply]) (fun k2 hk2 => ?_)
        rw [s1 85, s2 85, q1, q2, i1, i2, n_add (p := i) (q := q) (by omega), n_cl (p := i + q) (by omega)]
        refine Pm_chk (fun _ _ => ?_)
        show Pm k2 (fun k => x_multiply k 9 M1 U1 (mAr ω1 44 (i + q) (U1 4).toInt32)) (fun k => x_multiply k 9 M2 U2 (mAr ω2 44 (i + q) (U2 4).toInt32)) _
        refine Pm_suc rfl (fun k => by rw [x_multiply]) (fun k => by rw [x_multiply]) (fun k3 hk3 => ?_)
        refine ih k3 (by omega) (i + 1) _ _ _ _ _ _ (by omega) (by show M1 3 + 1 = _; rw [i1, n_add1]) (by show M2 3 + 1 = _; rw [i2, n_add1]) x1 x2 xk (NF_tr m1 (NF_ar (by omega))) (NF_tr m2 (NF_ar (by omega))) ?_ (fun j hj => (mAr_o hj).trans (a1 j hj)) (fun j hj => (mAr_o hj).trans (a2 j hj)) s1 s2
        rw [mAr_s, mAr_s]; exact AgN_st hC (by rw [hU])
      have hjq : j < q := by
        by_cases e : q ≤ j
        · exact absurd ((n_le (by omega) (by omega)).mpr e) y
        · omega
      refine Pm_chk (fun _ _ => ?_)
      refine Pm_chk (fun _ _ => ?_)
      refine Pm_chk (fun _ _ => ?_)
      refine Pm_chk (fun _ _ => ?_)
      have ev : U1 4 + ((ω1.2.2 44 (i + j)).toInt64 + (ω1.2.2 42 i).toInt64 * (ω1.2.2 43 j).toInt64) = U2 4 + ((ω2.2.2 44 (i + j)).toInt64 + (ω2.2.2 42 i).toInt64 * (ω2.2.2 43 j).toInt64) := by
        rw [hU, hC (i + j) (by omega), a1 42 (by decide), a2 42 (by decide), a1 43 (by decide), a2 43 (by decide), hA i hip, hB j hjq]
      generalize U1 4 + ((ω1.2.2 44 (i + j)).toInt64 + (ω1.2.2 42 i).toInt64 * (ω1.2.2 43 j).toInt64) = v1 at ev
      generalize U2 4 + ((ω2.2.2 44 (i + j)).toInt64 + (ω2.2.2 42 i).toInt64 * (ω2.2.2 43 j).toInt64) = v2 at ev
      subst ev
      show Pm k1 (fun k => x_multiply k 7 M1 (updW U1 4 v1) (mAr ω1 44 (i + j) (v1 &&& 65535).toInt32)) (fun k => x_multiply k 7 M2 (updW U2 4 v1) (mAr ω2 44 (i + j) (v1 &&& 65535).toInt32)) _
      refine Pm_suc rfl (fun k => by rw [x_multiply]) (fun k => by rw [x_multiply]) (fun k2 hk2 => ?_)
      refine ihj k2 (by omega) (j + 1) _ _ _ _ _ _ (by omega) (by omega) i1 i2 (by show M1 6 + 1 = _; rw [j1, n_add1]) (by show M2 6 + 1 = _; rw [j2, n_add1]) x1 x2 xk rfl (NF_tr m1 (NF_ar (by omega))) (NF_tr m2 (NF_ar (by omega))) ?_ (fun j hj => (mAr_o hj).trans (a1 j hj)) (fun j hj => (mAr_o hj).trans (a2 j hj)) s1 s2
      rw [mAr_s, mAr_s]; exact AgN_st hC rfl
    refine Pm_suc rfl (fun k => by rw [x_multiply]) (fun k => by rw [x_multiply]) (fun k1 hk1 => ?_)
    rw [s1 84, s2 84, p1, p2, i1, i2]
    refine Pm_ite Iff.rfl (fun _ _ => hQ k1 _ _ _ _ _ _ m1 m2 ((s1 86).trans c1) ((s2 86).trans c2) hC a1 a2 s1 s2 x1 x2 xk) (fun y _ => ?_)
    have hip : i < p := by
      by_cases e : p ≤ i
      · exact absurd ((n_le (by omega) (by omega)).mpr e) y
      · omega
    exact b6 hip k1 0 _ _ _ _ _ _ (by omega) (Nat.zero_le _) i1 i2 rfl rfl x1 x2 xk rfl m1 m2 hC a1 a2 s1 s2
  -- zeroes first
  have b2 : ∀ (m i : Nat) (N1 N2 : Nat → Int32) (K1 K2 : Nat → Int64) (υ1 υ2 : MS), i ≤ p + q → N1 3 = nI i → N2 3 = nI i → N1 1 = L1 1 → N2 1 = L2 1 → (N1 2 = L1 2 ∧ N2 2 = L2 2) → NF σ1 υ1 → NF σ2 υ2 → AgN (υ1.2.2 44) (υ2.2.2 44) i → (∀ j, j ≠ 44 → υ1.2.2 j = τ1.2.2 j) → (∀ j, j ≠ 44 → υ2.2.2 j = τ2.2.2 j) → (∀ j, υ1.1 j = τ1.1 j) → (∀ j, υ2.1 j = τ2.1 j) → Pm m (fun k => x_multiply k 2 N1 K1 υ1) (fun k => x_multiply k 2 N2 K2 υ2) Q := by
    intro m
    induction m using Nat.strongRecOn with
    | ind m ih =>
    intro i N1 N2 K1 K2 υ1 υ2 hi i1 i2 x1 x2 xk m1 m2 hC a1 a2 s1 s2
    refine Pm_suc rfl (fun k => by rw [x_multiply]) (fun k => by rw [x_multiply]) (fun k1 hk1 => ?_)
    rw [s1 86, s2 86, c1, c2, i1, i2, n_cl (p := i) (by omega)]
    refine Pm_ite Iff.rfl (fun y _ => ?_) (fun y _ => ?_)
    · have y := (n_le (by omega) (by omega)).mp y
      have e : i = p + q := by omega
      rw [e] at hC
      refine Pm_suc rfl (fun k => by rw [x_multiply]) (fun k => by rw [x_multiply]) (fun k2 hk2 => ?_)
      exact b5 k2 0 _ _ _ _ _ _ (Nat.zero_le _) rfl rfl x1 x2 xk m1 m2 hC a1 a2 s1 s2
    have hic : i < p + q := by
      by_cases e : p + q ≤ i
      · exact absurd ((n_le (by omega) (by omega)).mpr e) y
      · omega
    refine Pm_chk (fun _ _ => ?_)
    show Pm k1 (fun k => x_multiply k 3 N1 K1 (mAr υ1 44 i 0)) (fun k => x_multiply k 3 N2 K2 (mAr υ2 44 i 0)) _
    refine Pm_suc rfl (fun k => by rw [x_multiply]) (fun k => by rw [x_multiply]) (fun k2 hk2 => ?_)
    refine ih k2 (by omega) (i + 1) _ _ _ _ _ _ (by omega) (by show N1 3 + 1 = _; rw [i1, n_add1]) (by show N2 3 + 1 = _; rw [i2, n_add1]) x1 x2 xk (NF_tr m1 (NF_ar (by omega))) (NF_tr m2 (NF_ar (by omega))) ?_ (fun j hj => (mAr_o hj).trans (a1 j hj)) (fun j hj => (mAr_o hj).trans (a2 j hj)) s1 s2
    rw [mAr_s, mAr_s]; exact AgN_up hC rfl
  refine Pm_suc rfl (fun k => by rw [x_multiply]) (fun k => by rw [x_multiply]) (fun k1 _ => ?_)
  exact b2 k1 0 _ _ _ _ _ _ (Nat.zero_le _) rfl rfl rfl rfl ⟨rfl, rfl⟩ n1 n2 (fun i hi => absurd hi (Nat.not_lt_zero i)) (fun _ _ => rfl) (fun _ _ => rfl) (fun _ => rfl) (fun _ => rfl)
/-- rows are multiplied: p rows of 47, q of 42 -/
theorem k_rowsTimes2 {p q : Nat} (hp : p ≤ 128) (hq : q ≤ 128) {Q : Int32 × MS → Int32 × MS → Prop} {τ1 τ2 : MS} {L1 L2 : Nat → Int32} (n1 : NF σ1 τ1) (n2 : NF σ2 τ2) (p1 : L1 1 = nI p) (p2 : L2 1 = nI p) (q1 : τ1.1 84 = nI q) (q2 : τ2.1 84 = nI q) (c1 : τ1.1 86 = nI (p + q)) (c2 : τ2.1 86 = nI (p + q)) (hA : AgN (τ1.2.2 47) (τ2.2.2 47) p) (hB : AgN (τ1.2.2 42) (τ2.2.2 42) q) {J1 J2 : Nat → Int64} 
    (hQ : ∀ (m : Nat) (N1 N2 : Nat → Int32) (K1 K2 : Nat → Int64) (υ1 υ2 : MS), NF σ1 υ1 → NF σ2 υ2 → υ1.1 86 = nI (p + q) → υ2.1 86 = nI (p + q) → AgN (υ1.2.2 44) (υ2.2.2 44) (p + q) → (∀ j, j ≠ 44 → υ1.2.2 j = τ1.2.2 j) → (∀ j, j ≠ 44 → υ2.2.2 j = τ2.2.2 j) → (∀ j, υ1.1 j = τ1.1 j) → (∀ j, υ2.1 j = τ2.1 j) → N1 1 = L1 1 → N2 1 = L2 1 → True → Pm m (fun k => x_rowsTimes k 10 N1 K1 υ1) (fun k => x_rowsTimes k 10 N2 K2 υ2) Q) : Pm n (fun k => x_rowsTimes k 1 L1 J1 τ1) (fun k => x_rowsTimes k 1 L2 J2 τ2) Q := by
  -- the state within
  have b5 : ∀ (m i : Nat) (N1 N2 : Nat → Int32) (K1 K2 : Nat → Int64) (υ1 υ2 : MS), i ≤ p → N1 2 = nI i → N2 2 = nI i → N1 1 = L1 1 → N2 1 = L2 1 → True → NF σ1 υ1 → NF σ2 υ2 → AgN (υ1.2.2 44) (υ2.2.2 44) (p + q) → (∀ j, j ≠ 44 → υ1.2.2 j = τ1.2.2 j) → (∀ j, j ≠ 44 → υ2.2.2 j = τ2.2.2 j) → (∀ j, υ1.1 j = τ1.1 j) → (∀ j, υ2.1 j = τ2.1 j) → Pm m (fun k => x_rowsTimes k 5 N1 K1 υ1) (fun k => x_rowsTimes k 5 N2 K2 υ2) Q := by
    intro m
    induction m using Nat.strongRecOn with
    | ind m ih =>
    intro i N1 N2 K1 K2 υ1 υ2 hi i1 i2 x1 x2 xk m1 m2 hC a1 a2 s1 s2
    have b6 : i < p → ∀ (m' j : Nat) (M1 M2 : Nat → Int32) (U1 U2 : Nat → Int64) (ω1 ω2 : MS), m' < m → j ≤ q → M1 2 = nI i → M2 2 = nI i → M1 5 = nI j → M2 5 = nI j → M1 1 = L1 1 → M2 1 = L2 1 → True → U1 3 = U2 3 → NF σ1 ω1 → NF σ2 ω2 → AgN (ω1.2.2 44) (ω2.2.2 44) (p + q) → (∀ j, j ≠ 44 → ω1.2.2 j = τ1.2.2 j) → (∀ j, j ≠ 44 → ω2.2.2 j = τ2.2.2 j) → (∀ j, ω1.1 j = τ1.1 j) → (∀ j, ω2.1 j = τ2.1 j) → Pm m' (fun k => x_rowsTimes k 6 M1 U1 ω1) (fun k => x_rowsTimes k 6 M2 U2 ω2) Q := by
      intro hip m'
      induction m' using Nat.strongRecOn with
      | ind m' ihj =>
      intro j M1 M2 U1 U2 ω1 ω2 hm' hj i1 i2 j1 j2 x1 x2 xk hU m1 m2 hC a1 a2 s1 s2
      refine Pm_suc rfl (fun k => by rw [x_rowsTimes]) (fun k => by rw [x_rowsTimes]) (fun k1 hk1 => ?_)
      rw [s1 84, s2 84, q1, q2, i1, i2, j1, j2, n_add (p := i) (q := j) (by omega), n_cl (p := i + j) (by omega), n_cl (p := i) (by omega), n_cl (p := j) (by omega)]
      refine Pm_ite Iff.rfl (fun _ _ => ?_) (fun y _ => ?_)
      · refine Pm_suc rfl (fun k => by rw [x_rowsTimes]) (fun k => by rw [x_rowsTimes]) (fun k2 hk2 => ?_)
        rw [s1 84, s2 84, q1, q2, i1, i2, n_add (p := i) (q := q) (by omega), n_cl (p := i + q) (by omega)]
        refine Pm_chk (fun _ _ => ?_)
        show Pm k2 (fun k => x_rowsTimes k 9 M1 U1 (mAr ω1 44 (i + q) (U1 3).toInt32)) (fun k => x_rowsTimes k 9 M2 U2 (mAr ω2 44 (i + q) (U2 3).toInt32)) _
        refine Pm_suc rfl (fun k => by rw [x_rowsTimes]) (fun k => by rw [x_rowsTimes]) (fun k3 hk3 => ?_)
        refine ih k3 (by omega) (i + 1) _ _ _ _ _ _ (by omega) (by show M1 2 + 1 = _; rw [i1, n_add1]) (by show M2 2 + 1 = _; rw [i2, n_add1]) x1 x2 xk (NF_tr m1 (NF_ar (by omega))) (NF_tr m2 (NF_ar (by omega))) ?_ (fun j hj => (mAr_o hj).trans (a1 j hj)) (fun j hj => (mAr_o hj).trans (a2 j hj)) s1 s2
        rw [mAr_s, mAr_s]; exact AgN_st hC (by rw [hU])
      have hjq : j < q := by
        by_cases e : q ≤ j
        · exact absurd ((n_le (by omega) (by omega)).mpr e) y
        · omega
      refine Pm_chk (fun _ _ => ?_)
      refine Pm_chk (fun _ _ => ?_)
      refine Pm_chk (fun _ _ => ?_)
      refine Pm_chk (fun _ _ => ?_)
      have ev : U1 3 + ((ω1.2.2 44 (i + j)).toInt64 + (ω1.2.2 47 i).toInt64 * (ω1.2.2 42 j).toInt64) = U2 3 + ((ω2.2.2 44 (i + j)).toInt64 + (ω2.2.2 47 i).toInt64 * (ω2.2.2 42 j).toInt64) := by
        rw [hU, hC (i + j) (by omega), a1 47 (by decide), a2 47 (by decide), a1 42 (by decide), a2 42 (by decide), hA i hip, hB j hjq]
      generalize U1 3 + ((ω1.2.2 44 (i + j)).toInt64 + (ω1.2.2 47 i).toInt64 * (ω1.2.2 42 j).toInt64) = v1 at ev
      generalize U2 3 + ((ω2.2.2 44 (i + j)).toInt64 + (ω2.2.2 47 i).toInt64 * (ω2.2.2 42 j).toInt64) = v2 at ev
      subst ev
      show Pm k1 (fun k => x_rowsTimes k 7 M1 (updW U1 3 v1) (mAr ω1 44 (i + j) (v1 &&& 65535).toInt32)) (fun k => x_rowsTimes k 7 M2 (updW U2 3 v1) (mAr ω2 44 (i + j) (v1 &&& 65535).toInt32)) _
      refine Pm_suc rfl (fun k => by rw [x_rowsTimes]) (fun k => by rw [x_rowsTimes]) (fun k2 hk2 => ?_)
      refine ihj k2 (by omega) (j + 1) _ _ _ _ _ _ (by omega) (by omega) i1 i2 (by show M1 5 + 1 = _; rw [j1, n_add1]) (by show M2 5 + 1 = _; rw [j2, n_add1]) x1 x2 xk rfl (NF_tr m1 (NF_ar (by omega))) (NF_tr m2 (NF_ar (by omega))) ?_ (fun j hj => (mAr_o hj).trans (a1 j hj)) (fun j hj => (mAr_o hj).trans (a2 j hj)) s1 s2
      rw [mAr_s, mAr_s]; exact AgN_st hC rfl
    refine Pm_suc rfl (fun k => by rw [x_rowsTimes]) (fun k => by rw [x_rowsTimes]) (fun k1 hk1 => ?_)
    rw [x1, x2, p1, p2, i1, i2]
    refine Pm_ite Iff.rfl (fun _ _ => hQ k1 _ _ _ _ _ _ m1 m2 ((s1 86).trans c1) ((s2 86).trans c2) hC a1 a2 s1 s2 x1 x2 xk) (fun y _ => ?_)
    have hip : i < p := by
      by_cases e : p ≤ i
      · exact absurd ((n_le (by omega) (by omega)).mpr e) y
      · omega
    exact b6 hip k1 0 _ _ _ _ _ _ (by omega) (Nat.zero_le _) i1 i2 rfl rfl x1 x2 xk rfl m1 m2 hC a1 a2 s1 s2
  -- zeroes first
  have b2 : ∀ (m i : Nat) (N1 N2 : Nat → Int32) (K1 K2 : Nat → Int64) (υ1 υ2 : MS), i ≤ p + q → N1 2 = nI i → N2 2 = nI i → N1 1 = L1 1 → N2 1 = L2 1 → True → NF σ1 υ1 → NF σ2 υ2 → AgN (υ1.2.2 44) (υ2.2.2 44) i → (∀ j, j ≠ 44 → υ1.2.2 j = τ1.2.2 j) → (∀ j, j ≠ 44 → υ2.2.2 j = τ2.2.2 j) → (∀ j, υ1.1 j = τ1.1 j) → (∀ j, υ2.1 j = τ2.1 j) → Pm m (fun k => x_rowsTimes k 2 N1 K1 υ1) (fun k => x_rowsTimes k 2 N2 K2 υ2) Q := by
    intro m
    induction m using Nat.strongRecOn with
    | ind m ih =>
    intro i N1 N2 K1 K2 υ1 υ2 hi i1 i2 x1 x2 xk m1 m2 hC a1 a2 s1 s2
    refine Pm_suc rfl (fun k => by rw [x_rowsTimes]) (fun k => by rw [x_rowsTimes]) (fun k1 hk1 => ?_)
    rw [s1 86, s2 86, c1, c2, i1, i2, n_cl (p := i) (by omega)]
    refine Pm_ite Iff.rfl (fun y _ => ?_) (fun y _ => ?_)
    · have y := (n_le (by omega) (by omega)).mp y
      have e : i = p + q := by omega
      rw [e] at hC
      refine Pm_suc rfl (fun k => by rw [x_rowsTimes]) (fun k => by rw [x_rowsTimes]) (fun k2 hk2 => ?_)
      exact b5 k2 0 _ _ _ _ _ _ (Nat.zero_le _) rfl rfl x1 x2 xk m1 m2 hC a1 a2 s1 s2
    have hic : i < p + q := by
      by_cases e : p + q ≤ i
      · exact absurd ((n_le (by omega) (by omega)).mpr e) y
      · omega
    refine Pm_chk (fun _ _ => ?_)
    show Pm k1 (fun k => x_rowsTimes k 3 N1 K1 (mAr υ1 44 i 0)) (fun k => x_rowsTimes k 3 N2 K2 (mAr υ2 44 i 0)) _
    refine Pm_suc rfl (fun k => by rw [x_rowsTimes]) (fun k => by rw [x_rowsTimes]) (fun k2 hk2 => ?_)
    refine ih k2 (by omega) (i + 1) _ _ _ _ _ _ (by omega) (by show N1 2 + 1 = _; rw [i1, n_add1]) (by show N2 2 + 1 = _; rw [i2, n_add1]) x1 x2 xk (NF_tr m1 (NF_ar (by omega))) (NF_tr m2 (NF_ar (by omega))) ?_ (fun j hj => (mAr_o hj).trans (a1 j hj)) (fun j hj => (mAr_o hj).trans (a2 j hj)) s1 s2
    rw [mAr_s, mAr_s]; exact AgN_up hC rfl
  refine Pm_suc rfl (fun k => by rw [x_rowsTimes]) (fun k => by rw [x_rowsTimes]) (fun k1 _ => ?_)
  exact b2 k1 0 _ _ _ _ _ _ (Nat.zero_le _) rfl rfl rfl rfl trivial n1 n2 (fun i hi => absurd hi (Nat.not_lt_zero i)) (fun _ _ => rfl) (fun _ _ => rfl) (fun _ => rfl) (fun _ => rfl)
theorem k_multiply {a1 a2 b1 b2 p q : Nat} (hS1 : HS g1 l1 B1 h1 σ1) (hS2 : HS g2 l2 B2 h2 σ2) (e1 : σ1.1 56 = 0) (e2 : σ2.1 56 = 0) (hr1 : h1 + 70 ≤ B1 + 870000) (hr2 : h2 + 70 ≤ B2 + 870000) (hA : WhE σ1 σ2 a1 a2 p) (hB : WhE σ1 σ2 b1 b2 q) {L1 L2 : Nat → Int32} {J1 J2 : Nat → Int64} (d1 : L1 1 = nI a1) (d2 : L1 2 = nI b1) (f1 : L2 1 = nI a2) (f2 : L2 2 = nI b2) : Pm n (fun k => x_multiply k 0 L1 J1 σ1) (fun k => x_multiply k 0 L2 J2 σ2) (KQ h1 h2 70) := by
  have hp := hA.1.2.2.1
  have hq := hB.1.2.2.1
  refine Pm_suc rfl (fun k => by rw [x_multiply]) (fun k => by rw [x_multiply]) (fun m1 _ => ?_)
  refine Pm_ob (k_loadA hS1 hS2 hA (by exact d1) (by exact f1)) (fun r1 r2 hr => ?_)
  obtain ⟨q1, q2, q3, q4, q5⟩ := hr
  have hT1 := NF_HS q1 hS1
  have hT2 := NF_HS q2 hS2
  refine Pm_ob (k_loadB hT1 hT2 (WhE_NF q1 q2 hB) (by exact d2) (by exact f2)) (fun s1 s2 hs => ?_)
  obtain ⟨w1, w2, w3, w4, w5, w6, w7, w8, w9⟩ := hs
  have n1 := NF_tr q1 w1
  have n2 := NF_tr q2 w2
  have hc1 : s1.2.1 84 + s1.2.1 85 = nI (p - 1 + (q - 1)) := by rw [w8, q3, w3, n_add (by omega)]
  have hc2 : s2.2.1 84 + s2.2.1 85 = nI (p - 1 + (q - 1)) := by rw [w9, q4, w4, n_add (by omega)]
  rw [hc1, hc2]
  show Pm m1 (fun k => x_multiply k 1 L1 J1 (mSc s1.2 86 (nI (p - 1 + (q - 1))))) (fun k => x_multiply k 1 L2 J2 (mSc s2.2 86 (nI (p - 1 + (q - 1))))) _
  refine k_multiply2 (p := p - 1) (q := q - 1) (τ1 := mSc s1.2 86 (nI (p - 1 + (q - 1)))) (τ2 := mSc s2.2 86 (nI (p - 1 + (q - 1)))) (by omega) (by omega) (NF_tr n1 (NF_sc (by omega))) (NF_tr n2 (NF_sc (by omega))) (w8.trans q3) (w9.trans q4) w3 w4 rfl rfl ?_ w5 ?_
  · show AgN (s1.2.2.2 42) (s2.2.2.2 42) _
    rw [w6, w7]; exact q5
  · intro m N1 N2 K1 K2 υ1 υ2 y1 y2 y3 y4 y5 _ _ _ _ y8 y9 y10
    have hU1 := NF_HS y1 hS1
    have hU2 := NF_HS y2 hS2
    refine Pm_suc rfl (fun k => by rw [x_multiply]) (fun k => by rw [x_multiply]) (fun m2 _ => ?_)
    refine Pm_ob (k_signOf hU1 hU2 (WhE_NF y1 y2 hA) (by exact y8.trans d1) (by exact y9.trans f1)) (fun x1 x2 hx => ?_)
    rw [hx.1, hx.2]
    refine Pm_ob (k_signOf hU1 hU2 (WhE_NF y1 y2 hB) (by exact y10.1.trans d2) (by exact y10.2.trans f2)) (fun z1 z2 hz => ?_)
    rw [hz.1, hz.2]
    exact Pm_ob (k_wholeOf hU1 hU2 ((y1.1 56 (by decide)).trans e1) ((y2.1 56 (by decide)).trans e2) hr1 hr2 (by omega) y3 y4 y5 rfl) (fun r1 r2 hr => Pm_some hr)
/-- products of rows: their limbs, without zeroes above -/
theorem k_rowsTimes {p q : Nat} (hp : p ≤ 128) (hq : q ≤ 128) (q1 : σ1.1 84 = nI q) (q2 : σ2.1 84 = nI q) (hA : AgN (σ1.2.2 47) (σ2.2.2 47) p) (hB : AgN (σ1.2.2 42) (σ2.2.2 42) q) {L1 L2 : Nat → Int32} {J1 J2 : Nat → Int64} (p1 : L1 1 = nI p) (p2 : L2 1 = nI p) : Pm n (fun k => x_rowsTimes k 0 L1 J1 σ1) (fun k => x_rowsTimes k 0 L2 J2 σ2) (fun r1 r2 => NF σ1 r1.2 ∧ NF σ2 r2.2 ∧ (∃ c, c ≤ p + q ∧ r1.2.1 86 = nI c ∧ r2.2.1 86 = nI c ∧ AgN (r1.2.2.2 44) (r2.2.2.2 44) c) ∧ r1.2.2.2 42 = σ1.2.2 42 ∧ r2.2.2.2 42 = σ2.2.2 42 ∧ r1.2.1 84 = nI q ∧ r2.2.1 84 = nI q) := by
  have b10 : ∀ (c m : Nat) (N1 N2 : Nat → Int32) (K1 K2 : Nat → Int64) (υ1 υ2 : MS), c ≤ p + q → NF σ1 υ1 → NF σ2 υ2 → υ1.1 86 = nI c → υ2.1 86 = nI c → AgN (υ1.2.2 44) (υ2.2.2 44) c → υ1.2.2 42 = σ1.2.2 42 → υ2.2.2 42 = σ2.2.2 42 → υ1.1 84 = nI q → υ2.1 84 = nI q → Pm m (fun k => x_rowsTimes k 10 N1 K1 υ1) (fun k => x_rowsTimes k 10 N2 K2 υ2) (fun r1 r2 => NF σ1 r1.2 ∧ NF σ2 r2.2 ∧ (∃ c, c ≤ p + q ∧ r1.2.1 86 = nI c ∧ r2.2.1 86 = nI c ∧ AgN (r1.2.2.2 44) (r2.2.2.2 44) c) ∧ r1.2.2.2 42 = σ1.2.2 42 ∧ r2.2.2.2 42 = σ2.2.2 42 ∧ r1.2.1 84 = nI q ∧ r2.2.1 84 = nI q) := by
    intro c
    induction c with
    | zero =>
      intro m N1 N2 K1 K2 υ1 υ2 hc n1 n2 c1 c2 hC x1 x2 x3 x4
      refine Pm_suc rfl (fun k => by rw [x_rowsTimes]) (fun k => by rw [x_rowsTimes]) (fun m1 _ => ?_)
      rw [c1, c2]
      refine Pm_ite Iff.rfl (fun _ _ => ?_) (fun w _ => absurd (by decide) w)
      refine Pm_suc rfl (fun k => by rw [x_rowsTimes]) (fun k => by rw [x_rowsTimes]) (fun m2 _ => ?_)
      exact Pm_some ⟨n1, n2, ⟨0, by omega, c1, c2, hC⟩, x1, x2, x3, x4⟩
    | succ c ih =>
      intro m N1 N2 K1 K2 υ1 υ2 hc n1 n2 c1 c2 hC x1 x2 x3 x4
      have fin : ∀ m', Pm m' (fun k => x_rowsTimes k 11 N1 K1 υ1) (fun k => x_rowsTimes k 11 N2 K2 υ2) (fun r1 r2 => NF σ1 r1.2 ∧ NF σ2 r2.2 ∧ (∃ c, c ≤ p + q ∧ r1.2.1 86 = nI c ∧ r2.2.1 86 = nI c ∧ AgN (r1.2.2.2 44) (r2.2.2.2 44) c) ∧ r1.2.2.2 42 = σ1.2.2 42 ∧ r2.2.2.2 42 = σ2.2.2 42 ∧ r1.2.1 84 = nI q ∧ r2.2.1 84 = nI q) := fun m' => by
        refine Pm_suc rfl (fun k => by rw [x_rowsTimes]) (fun k => by rw [x_rowsTimes]) (fun m2 _ => ?_)
        exact Pm_some ⟨n1, n2, ⟨c + 1, hc, c1, c2, hC⟩, x1, x2, x3, x4⟩
      refine Pm_suc rfl (fun k => by rw [x_rowsTimes]) (fun k => by rw [x_rowsTimes]) (fun m1 _ => ?_)
      rw [c1, c2, show nI (c + 1) - 1 = nI c from n_sub1 (by omega), n_cl (p := c) (by omega)]
      refine Pm_ite Iff.rfl (fun _ _ => fin m1) (fun _ _ => ?_)
      refine Pm_chk (fun _ _ => ?_)
      refine Pm_ite (by rw [hC c (by omega)]) (fun _ _ => ?_) (fun _ _ => fin m1)
      show Pm m1 (fun k => x_rowsTimes k 10 N1 K1 (mSc υ1 86 (nI c))) (fun k => x_rowsTimes k 10 N2 K2 (mSc υ2 86 (nI c))) _
      exact ih m1 _ _ _ _ _ _ (by omega) (NF_tr n1 (NF_sc (by omega))) (NF_tr n2 (NF_sc (by omega))) rfl rfl (AgN_mo hC (by omega)) x1 x2 x3 x4
  refine Pm_suc rfl (fun k => by rw [x_rowsTimes]) (fun k => by rw [x_rowsTimes]) (fun m1 _ => ?_)
  rw [p1, p2, q1, q2, n_add (by omega)]
  show Pm m1 (fun k => x_rowsTimes k 1 L1 J1 (mSc σ1 86 (nI (p + q)))) (fun k => x_rowsTimes k 1 L2 J2 (mSc σ2 86 (nI (p + q)))) _
  refine k_rowsTimes2 (τ1 := mSc σ1 86 (nI (p + q))) (τ2 := mSc σ2 86 (nI (p + q))) hp hq (NF_sc (by omega)) (NF_sc (by omega)) p1 p2 q1 q2 rfl rfl hA hB ?_
  intro m N1 N2 K1 K2 υ1 υ2 y1 y2 y3 y4 y5 y6 y7 y8 y9 _ _ _
  exact b10 (p + q) m N1 N2 K1 K2 υ1 υ2 (Nat.le_refl _) y1 y2 y3 y4 y5 (y6 42 (by decide)) (y7 42 (by decide)) ((y8 84).trans q1) ((y9 84).trans q2)
end KMU
end JnS160
