/-! What is made holds what it was made of (reference): strings (made by str2.py). -/
/-- with fuel up to n: an answer is as Q says -/
def Um (n : Nat) (g : Nat → Option (Int32 × MS)) (Q : Int32 × MS → Prop) : Prop := ∀ k, k ≤ n → ∀ r, g k = some r → Q r
section UMR
variable {n : Nat} {g h : Nat → Option (Int32 × MS)} {Q P : Int32 × MS → Prop}
theorem Um_suc (z : g 0 = none) (e : ∀ k, g (k + 1) = h k) (t : ∀ m, m + 1 = n → Um m h Q) : Um n g Q := by
  intro k hk r a
  cases k with
  | zero => rw [z] at a; cases a
  | succ k =>
    cases n with
    | zero => omega
    | succ m =>
      rw [e] at a
      exact t m rfl k (by omega) r a
theorem Um_ite {c : Prop} {d : Decidable c} {a b : Nat → Option (Int32 × MS)} (t : c → Um n a Q) (u : ¬ c → Um n b Q) : Um n (fun k => if c then a k else b k) Q := by
  intro k hk r e
  have e : (if c then a k else b k) = some r := e
  by_cases h : c
  · rw [if_pos h] at e; exact t h k hk r e
  · rw [if_neg h] at e; exact u h k hk r e
theorem Um_chk {c : Prop} {d : Decidable c} {a : Nat → Option (Int32 × MS)} (t : c → Um n a Q) : Um n (fun k => if c then a k else none) Q := by
  intro k hk r e
  have e : (if c then a k else none) = some r := e
  by_cases h : c
  · rw [if_pos h] at e; exact t h k hk r e
  · rw [if_neg h] at e; cases e
theorem Um_chk0 {c : Prop} {d : Decidable c} {a : Nat → Option (Int32 × MS)} (t : ¬ c → Um n a Q) : Um n (fun k => if c then none else a k) Q := by
  intro k hk r e
  have e : (if c then none else a k) = some r := e
  by_cases h : c
  · rw [if_pos h] at e; cases e
  · rw [if_neg h] at e; exact t h k hk r e
theorem Um_some {r : Int32 × MS} (h : Q r) : Um n (fun _ => some r) Q := by
  intro k hk s e
  cases e
  exact h
theorem Um_mono (t : Um n g P) (h : ∀ r, P r → Q r) : Um n g Q := fun k hk r e => h r (t k hk r e)
theorem Um_ob {x : Nat → Option (Int32 × MS)} {f : Nat → Int32 × MS → Option (Int32 × MS)} (t : Um n x P) (h : ∀ r, P r → Um n (fun k => f k r) Q) : Um n (fun k => ob (x k) (f k)) Q := by
  intro k hk r e
  have e : ob (x k) (f k) = some r := e
  cases a : x k with
  | none => rw [a] at e; cases e
  | some s =>
    rw [a] at e
    exact h s (t k hk s a) k hk r e
theorem Um_t (t : Tm g Q) (m : Mn g) : Um n g Q := fun k hk r e => Tm_at t m e
theorem Um_and (t : Um n g P) (u : Um n g Q) : Um n g (fun r => P r ∧ Q r) := fun k hk r e => ⟨t k hk r e, u k hk r e⟩
/-- both sides are known -/
theorem Pm_u2 {g2 : Nat → Option (Int32 × MS)} {P2 : Int32 × MS → Prop} (t : Um n g P) (u : Um n g2 P2) : Pm n g g2 (fun r1 r2 => P r1 ∧ P2 r2) := fun k hk r1 r2 e1 e2 => ⟨t k hk r1 e1, u k hk r2 e2⟩
end UMR
/-- an object that was made at h: kind, length, size, height, cells -/
def NwO (h kd n s ht : Nat) (c : Nat → Int32) (r : Int32 × MS) : Prop := r.1 = nI h ∧ r.2.1 55 = nI (h + 4 + n) ∧ r.2.1 56 = 0 ∧ r.2.2.2 28 h = nI kd ∧ r.2.2.2 28 (h + 1) = nI n ∧ r.2.2.2 28 (h + 2) = nI s ∧ r.2.2.2 28 (h + 3) = nI ht ∧ ∀ i, i < n → r.2.2.2 28 (h + 4 + i) = c i
section UST
variable {g : Nat → Prop} {l : List Nat} {B h t : Nat} {σ : MS}
theorem u_make {m n : Nat} (hS : HS g l B h σ) (hn : n ≤ 200000) (hr : h + 4 + n ≤ B + 870000) {L : Nat → Int32} (h2 : L 2 = nI n) : Um m (fun k => x_make k 0 L σ) (fun r => r = (nI h, mMk σ h (L 1) n)) :=
  Um_mono (Um_t (s_make hS hn h2) (fun k => f_make k _ _ _)) (fun r z => z.elim (fun y => absurd hr y.1) (fun y => y.2))
theorem u_stringOf51 {m f n : Nat} (hS : HS g l B h σ) (h56 : σ.1 56 = 0) (hn : n ≤ 3996) (hr : h + 4 + n ≤ B + 870000) (hf : f + n ≤ 8200) {L : Nat → Int32} (h2 : L 2 = nI f) (h3 : L 3 = nI n) : Um m (fun k => x_stringOf__51 k 0 L σ) (NwO h 4 n (1 + (n + 3) / 4) 0 (fun i => σ.2.2 51 (f + i))) := by
  have hb := HS_b hS
  have hB := hS.2.1
  have hdv : (1 : Int32) + (nI n + 3) / 4 = nI (1 + (n + 3) / 4) := n_str (by omega)
  have l4 : ∀ (m : Nat) (N : Nat → Int32) (τ : MS), N 3 = nI n → N 4 = nI h → τ.1 56 = 0 → τ.1 55 = nI (h + 4 + n) → τ.2.2 28 h = nI 4 → τ.2.2 28 (h + 1) = nI n → τ.2.2 28 (h + 3) = nI 0 → (∀ i, i < n → τ.2.2 28 (h + 4 + i) = σ.2.2 51 (f + i)) → Um m (fun k => x_stringOf__51 k 4 N τ) (NwO h 4 n (1 + (n + 3) / 4) 0 (fun i => σ.2.2 51 (f + i))) := by
    intro m N τ n3 n4 t56 t55 th t1 t3 tc
    refine Um_suc rfl (fun k => by rw [x_stringOf__51]) (fun m _ => ?_)
    refine Um_chk0 (fun _ => ?_)
    rw [n4, show nI h + 2 = nI (h + 2) from n_add (q := 2) (by omega), n3, hdv, n_cl (p := h + 2) (by omega)]
    refine Um_chk (fun _ => ?_)
    show Um m (fun k => x_stringOf__51 k 5 N (mAr τ 28 (h + 2) (nI (1 + (n + 3) / 4)))) _
    refine Um_suc rfl (fun k => by rw [x_stringOf__51]) (fun m _ => ?_)
    have u : ∀ j, j ≠ h + 2 → (mAr τ 28 (h + 2) (nI (1 + (n + 3) / 4))).2.2 28 j = τ.2.2 28 j := fun j hj => by rw [mAr_s, upd_other hj]
    exact Um_some ⟨n4, t55, t56, (u h (by omega)).trans th, (u _ (by omega)).trans t1, by rw [mAr_s, upd_same], (u _ (by omega)).trans t3, fun i hi => (u _ (by omega)).trans (tc i hi)⟩
  have l2 : ∀ (m i : Nat) (N : Nat → Int32) (τ : MS), i ≤ n → N 2 = nI f → N 3 = nI n → N 4 = nI h → N 5 = nI i → τ.1 56 = 0 → τ.1 55 = nI (h + 4 + n) → τ.2.2 28 h = nI 4 → τ.2.2 28 (h + 1) = nI n → τ.2.2 28 (h + 3) = nI 0 → (∀ j, j < i → τ.2.2 28 (h + 4 + j) = σ.2.2 51 (f + j)) → (∀ j, j < 8200 → τ.2.2 51 j = σ.2.2 51 j) → Um m (fun k => x_stringOf__51 k 2 N τ) (NwO h 4 n (1 + (n + 3) / 4) 0 (fun i => σ.2.2 51 (f + i))) := by
    intro m
    induction m using Nat.strongRecOn with
    | ind m ih =>
    intro i N τ hi n2 n3 n4 n5 t56 t55 th t1 t3 tc ts
    refine Um_suc rfl (fun k => by rw [x_stringOf__51]) (fun m1 hm1 => ?_)
    rw [n2, n3, n4, n5, n_add (p := f) (by omega), show nI h + 4 = nI (h + 4) from n_add (q := 4) (by omega), n_add (p := h + 4) (by omega), n_cl (p := f + i) (by omega), n_cl (p := h + 4 + i) (by omega)]
    refine Um_ite (fun y => ?_) (fun y => ?_)
    · have y := (n_le (by omega) (by omega)).mp y
      have e : i = n := by omega
      subst e
      exact l4 m1 N τ n3 n4 t56 t55 th t1 t3 tc
    have hi2 : i < n := by
      by_cases q : n ≤ i
      · exact absurd ((n_le (by omega) (by omega)).mpr q) y
      · omega
    refine Um_ite (fun _ => ?_) (fun w => absurd t56 w)
    refine Um_chk (fun _ => ?_)
    refine Um_chk (fun _ => ?_)
    rw [ts (f + i) (by omega)]
    show Um m1 (fun k => x_stringOf__51 k 3 N (mAr τ 28 (h + 4 + i) (σ.2.2 51 (f + i)))) _
    refine Um_suc rfl (fun k => by rw [x_stringOf__51]) (fun m2 hm2 => ?_)
    have u : ∀ j, j ≠ h + 4 + i → (mAr τ 28 (h + 4 + i) (σ.2.2 51 (f + i))).2.2 28 j = τ.2.2 28 j := fun j hj => by rw [mAr_s, upd_other hj]
    refine ih m2 (by omega) (i + 1) _ _ (by omega) n2 n3 n4 (by show N 5 + 1 = _; rw [n5, n_add1]) t56 t55 ((u _ (by omega)).trans th) ((u _ (by omega)).trans t1) ((u _ (by omega)).trans t3) (fun j hj => ?_) (fun j hj => ?_)
    · by_cases e : j = i
      · rw [e, mAr_s, upd_same]
      · exact (u _ (by omega)).trans (tc j (by omega))
    · rw [mAr_o (by decide)]; exact ts j hj
  refine Um_suc rfl (fun k => by rw [x_stringOf__51]) (fun m1 _ => ?_)
  refine Um_chk0 (fun _ => ?_)
  rw [h3, hdv]
  refine Um_ite (fun _ => ?_) (fun w => absurd ((n_le (q := 1000) (by omega) (by decide)).mpr (by omega)) w)
  refine Um_suc rfl (fun k => by rw [x_stringOf__51]) (fun m2 _ => ?_)
  refine Um_ob (u_make hS (n := n) (by omega) hr (by exact h3)) (fun r hr => ?_)
  rw [hr]
  refine l2 m2 0 _ _ (Nat.zero_le _) h2 h3 rfl rfl ((mMk_s (by decide)).trans h56) ?_ ?_ ?_ ?_ (fun j hj => absurd hj (Nat.not_lt_zero j)) (fun j hj => ?_)
  · show nI (h + (4 + n)) = _
    rw [Nat.add_assoc]
  · show (mMk σ h _ n).2.2 28 h = _
    rw [mMk_28, upd_other (by omega), upd_other (by omega), upd_other (by omega), upd_same]; rfl
  · show (mMk σ h _ n).2.2 28 (h + 1) = _
    rw [mMk_28, upd_other (by omega), upd_other (by omega), upd_same]
  · show (mMk σ h _ n).2.2 28 (h + 3) = _
    rw [mMk_28, upd_same]; rfl
  · show (mMk σ h _ n).2.2 51 j = _
    rw [mMk_o (by decide)]
/-- too long a string -/
theorem v_stringOf51 {m n : Nat} (hn : ¬ n ≤ 3996) (hn2 : n ≤ 60000) {L : Nat → Int32} (h3 : L 3 = nI n) : Um m (fun k => x_stringOf__51 k 0 L σ) (fun r => r = (0, mEr σ 5)) := by
  have hdv : (1 : Int32) + (nI n + 3) / 4 = nI (1 + (n + 3) / 4) := n_str (by omega)
  refine Um_suc rfl (fun k => by rw [x_stringOf__51]) (fun m1 _ => ?_)
  refine Um_chk0 (fun _ => ?_)
  rw [h3, hdv]
  refine Um_ite (fun w => absurd ((n_le (q := 1000) (by omega) (by decide)).mp w) (by omega)) (fun _ => ?_)
  refine Um_ob (Um_t (s_fail _ σ) (fun k => f_fail k _ _ _)) (fun r hr => ?_)
  rw [hr]
  exact Um_some rfl
theorem u_stringOf48 {m f n : Nat} (hS : HS g l B h σ) (h56 : σ.1 56 = 0) (hn : n ≤ 3996) (hr : h + 4 + n ≤ B + 870000) (hf : f + n ≤ 12000) {L : Nat → Int32} (h2 : L 2 = nI f) (h3 : L 3 = nI n) : Um m (fun k => x_stringOf__48 k 0 L σ) (NwO h 4 n (1 + (n + 3) / 4) 0 (fun i => σ.2.2 48 (f + i))) := by
  have hb := HS_b hS
  have hB := hS.2.1
  have hdv : (1 : Int32) + (nI n + 3) / 4 = nI (1 + (n + 3) / 4) := n_str (by omega)
  have l4 : ∀ (m : Nat) (N : Nat → Int32) (τ : MS), N 3 = nI n → N 4 = nI h → τ.1 56 = 0 → τ.1 55 = nI (h + 4 + n) → τ.2.2 28 h = nI 4 → τ.2.2 28 (h + 1) = nI n → τ.2.2 28 (h + 3) = nI 0 → (∀ i, i < n → τ.2.2 28 (h + 4 + i) = σ.2.2 48 (f + i)) → Um m (fun k => x_stringOf__48 k 4 N τ) (NwO h 4 n (1 + (n + 3) / 4) 0 (fun i => σ.2.2 48 (f + i))) := by
    intro m N τ n3 n4 t56 t55 th t1 t3 tc
    refine Um_suc rfl (fun k => by rw [x_stringOf__48]) (fun m _ => ?_)
    refine Um_chk0 (fun _ => ?_)
    rw [n4, show nI h + 2 = nI (h + 2) from n_add (q := 2) (by omega), n3, hdv, n_cl (p := h + 2) (by omega)]
    refine Um_chk (fun _ => ?_)
    show Um m (fun k => x_stringOf__48 k 5 N (mAr τ 28 (h + 2) (nI (1 + (n + 3) / 4)))) _
    refine Um_suc rfl (fun k => by rw [x_stringOf__48]) (fun m _ => ?_)
    have u : ∀ j, j ≠ h + 2 → (mAr τ 28 (h + 2) (nI (1 + (n + 3) / 4))).2.2 28 j = τ.2.2 28 j := fun j hj => by rw [mAr_s, upd_other hj]
    exact Um_some ⟨n4, t55, t56, (u h (by omega)).trans th, (u _ (by omega)).trans t1, by rw [mAr_s, upd_same], (u _ (by omega)).trans t3, fun i hi => (u _ (by omega)).trans (tc i hi)⟩
  have l2 : ∀ (m i : Nat) (N : Nat → Int32) (τ : MS), i ≤ n → N 2 = nI f → N 3 = nI n → N 4 = nI h → N 5 = nI i → τ.1 56 = 0 → τ.1 55 = nI (h + 4 + n) → τ.2.2 28 h = nI 4 → τ.2.2 28 (h + 1) = nI n → τ.2.2 28 (h + 3) = nI 0 → (∀ j, j < i → τ.2.2 28 (h + 4 + j) = σ.2.2 48 (f + j)) → (∀ j, j < 12000 → τ.2.2 48 j = σ.2.2 48 j) → Um m (fun k => x_stringOf__48 k 2 N τ) (NwO h 4 n (1 + (n + 3) / 4) 0 (fun i => σ.2.2 48 (f + i))) := by
    intro m
    induction m using Nat.strongRecOn with
    | ind m ih =>
    intro i N τ hi n2 n3 n4 n5 t56 t55 th t1 t3 tc ts
    refine Um_suc rfl (fun k => by rw [x_stringOf__48]) (fun m1 hm1 => ?_)
    rw [n2, n3, n4, n5, n_add (p := f) (by omega), show nI h + 4 = nI (h + 4) from n_add (q := 4) (by omega), n_add (p := h + 4) (by omega), n_cl (p := f + i) (by omega), n_cl (p := h + 4 + i) (by omega)]
    refine Um_ite (fun y => ?_) (fun y => ?_)
    · have y := (n_le (by omega) (by omega)).mp y
      have e : i = n := by omega
      subst e
      exact l4 m1 N τ n3 n4 t56 t55 th t1 t3 tc
    have hi2 : i < n := by
      by_cases q : n ≤ i
      · exact absurd ((n_le (by omega) (by omega)).mpr q) y
      · omega
    refine Um_ite (fun _ => ?_) (fun w => absurd t56 w)
    refine Um_chk (fun _ => ?_)
    refine Um_chk (fun _ => ?_)
    rw [ts (f + i) (by omega)]
    show Um m1 (fun k => x_stringOf__48 k 3 N (mAr τ 28 (h + 4 + i) (σ.2.2 48 (f + i)))) _
    refine Um_suc rfl (fun k => by rw [x_stringOf__48]) (fun m2 hm2 => ?_)
    have u : ∀ j, j ≠ h + 4 + i → (mAr τ 28 (h + 4 + i) (σ.2.2 48 (f + i))).2.2 28 j = τ.2.2 28 j := fun j hj => by rw [mAr_s, upd_other hj]
    refine ih m2 (by omega) (i + 1) _ _ (by omega) n2 n3 n4 (by show N 5 + 1 = _; rw [n5, n_add1]) t56 t55 ((u _ (by omega)).trans th) ((u _ (by omega)).trans t1) ((u _ (by omega)).trans t3) (fun j hj => ?_) (fun j hj => ?_)
    · by_cases e : j = i
      · rw [e, mAr_s, upd_same]
      · exact (u _ (by omega)).trans (tc j (by omega))
    · rw [mAr_o (by decide)]; exact ts j hj
  refine Um_suc rfl (fun k => by rw [x_stringOf__48]) (fun m1 _ => ?_)
  refine Um_chk0 (fun _ => ?_)
  rw [h3, hdv]
  refine Um_ite (fun _ => ?_) (fun w => absurd ((n_le (q := 1000) (by omega) (by decide)).mpr (by omega)) w)
  refine Um_suc rfl (fun k => by rw [x_stringOf__48]) (fun m2 _ => ?_)
  refine Um_ob (u_make hS (n := n) (by omega) hr (by exact h3)) (fun r hr => ?_)
  rw [hr]
  refine l2 m2 0 _ _ (Nat.zero_le _) h2 h3 rfl rfl ((mMk_s (by decide)).trans h56) ?_ ?_ ?_ ?_ (fun j hj => absurd hj (Nat.not_lt_zero j)) (fun j hj => ?_)
  · show nI (h + (4 + n)) = _
    rw [Nat.add_assoc]
  · show (mMk σ h _ n).2.2 28 h = _
    rw [mMk_28, upd_other (by omega), upd_other (by omega), upd_other (by omega), upd_same]; rfl
  · show (mMk σ h _ n).2.2 28 (h + 1) = _
    rw [mMk_28, upd_other (by omega), upd_other (by omega), upd_same]
  · show (mMk σ h _ n).2.2 28 (h + 3) = _
    rw [mMk_28, upd_same]; rfl
  · show (mMk σ h _ n).2.2 48 j = _
    rw [mMk_o (by decide)]
/-- too long a string -/
theorem v_stringOf48 {m n : Nat} (hn : ¬ n ≤ 3996) (hn2 : n ≤ 60000) {L : Nat → Int32} (h3 : L 3 = nI n) : Um m (fun k => x_stringOf__48 k 0 L σ) (fun r => r = (0, mEr σ 5)) := by
  have hdv : (1 : Int32) + (nI n + 3) / 4 = nI (1 + (n + 3) / 4) := n_str (by omega)
  refine Um_suc rfl (fun k => by rw [x_stringOf__48]) (fun m1 _ => ?_)
  refine Um_chk0 (fun _ => ?_)
  rw [h3, hdv]
  refine Um_ite (fun w => absurd ((n_le (q := 1000) (by omega) (by decide)).mp w) (by omega)) (fun _ => ?_)
  refine Um_ob (Um_t (s_fail _ σ) (fun k => f_fail k _ _ _)) (fun r hr => ?_)
  rw [hr]
  exact Um_some rfl
theorem u_stringOf28 {m f n : Nat} (hS : HS g l B h σ) (h56 : σ.1 56 = 0) (hn : n ≤ 3996) (hr : h + 4 + n ≤ B + 870000) (hf : f + n ≤ h) {L : Nat → Int32} (h2 : L 2 = nI f) (h3 : L 3 = nI n) : Um m (fun k => x_stringOf__28 k 0 L σ) (NwO h 4 n (1 + (n + 3) / 4) 0 (fun i => σ.2.2 28 (f + i))) := by
  have hb := HS_b hS
  have hB := hS.2.1
  have hdv : (1 : Int32) + (nI n + 3) / 4 = nI (1 + (n + 3) / 4) := n_str (by omega)
  have l4 : ∀ (m : Nat) (N : Nat → Int32) (τ : MS), N 3 = nI n → N 4 = nI h → τ.1 56 = 0 → τ.1 55 = nI (h + 4 + n) → τ.2.2 28 h = nI 4 → τ.2.2 28 (h + 1) = nI n → τ.2.2 28 (h + 3) = nI 0 → (∀ i, i < n → τ.2.2 28 (h + 4 + i) = σ.2.2 28 (f + i)) → Um m (fun k => x_stringOf__28 k 4 N τ) (NwO h 4 n (1 + (n + 3) / 4) 0 (fun i => σ.2.2 28 (f + i))) := by
    intro m N τ n3 n4 t56 t55 th t1 t3 tc
    refine Um_suc rfl (fun k => by rw [x_stringOf__28]) (fun m _ => ?_)
    refine Um_chk0 (fun _ => ?_)
    rw [n4, show nI h + 2 = nI (h + 2) from n_add (q := 2) (by omega), n3, hdv, n_cl (p := h + 2) (by omega)]
    refine Um_chk (fun _ => ?_)
    show Um m (fun k => x_stringOf__28 k 5 N (mAr τ 28 (h + 2) (nI (1 + (n + 3) / 4)))) _
    refine Um_suc rfl (fun k => by rw [x_stringOf__28]) (fun m _ => ?_)
    have u : ∀ j, j ≠ h + 2 → (mAr τ 28 (h + 2) (nI (1 + (n + 3) / 4))).2.2 28 j = τ.2.2 28 j := fun j hj => by rw [mAr_s, upd_other hj]
    exact Um_some ⟨n4, t55, t56, (u h (by omega)).trans th, (u _ (by omega)).trans t1, by rw [mAr_s, upd_same], (u _ (by omega)).trans t3, fun i hi => (u _ (by omega)).trans (tc i hi)⟩
  have l2 : ∀ (m i : Nat) (N : Nat → Int32) (τ : MS), i ≤ n → N 2 = nI f → N 3 = nI n → N 4 = nI h → N 5 = nI i → τ.1 56 = 0 → τ.1 55 = nI (h + 4 + n) → τ.2.2 28 h = nI 4 → τ.2.2 28 (h + 1) = nI n → τ.2.2 28 (h + 3) = nI 0 → (∀ j, j < i → τ.2.2 28 (h + 4 + j) = σ.2.2 28 (f + j)) → (∀ j, j < h → τ.2.2 28 j = σ.2.2 28 j) → Um m (fun k => x_stringOf__28 k 2 N τ) (NwO h 4 n (1 + (n + 3) / 4) 0 (fun i => σ.2.2 28 (f + i))) := by
    intro m
    induction m using Nat.strongRecOn with
    | ind m ih =>
    intro i N τ hi n2 n3 n4 n5 t56 t55 th t1 t3 tc ts
    refine Um_suc rfl (fun k => by rw [x_stringOf__28]) (fun m1 hm1 => ?_)
    rw [n2, n3, n4, n5, n_add (p := f) (by omega), show nI h + 4 = nI (h + 4) from n_add (q := 4) (by omega), n_add (p := h + 4) (by omega), n_cl (p := f + i) (by omega), n_cl (p := h + 4 + i) (by omega)]
    refine Um_ite (fun y => ?_) (fun y => ?_)
    · have y := (n_le (by omega) (by omega)).mp y
      have e : i = n := by omega
      subst e
      exact l4 m1 N τ n3 n4 t56 t55 th t1 t3 tc
    have hi2 : i < n := by
      by_cases q : n ≤ i
      · exact absurd ((n_le (by omega) (by omega)).mpr q) y
      · omega
    refine Um_ite (fun _ => ?_) (fun w => absurd t56 w)
    refine Um_chk (fun _ => ?_)
    refine Um_chk (fun _ => ?_)
    rw [ts (f + i) (by omega)]
    show Um m1 (fun k => x_stringOf__28 k 3 N (mAr τ 28 (h + 4 + i) (σ.2.2 28 (f + i)))) _
    refine Um_suc rfl (fun k => by rw [x_stringOf__28]) (fun m2 hm2 => ?_)
    have u : ∀ j, j ≠ h + 4 + i → (mAr τ 28 (h + 4 + i) (σ.2.2 28 (f + i))).2.2 28 j = τ.2.2 28 j := fun j hj => by rw [mAr_s, upd_other hj]
    refine ih m2 (by omega) (i + 1) _ _ (by omega) n2 n3 n4 (by show N 5 + 1 = _; rw [n5, n_add1]) t56 t55 ((u _ (by omega)).trans th) ((u _ (by omega)).trans t1) ((u _ (by omega)).trans t3) (fun j hj => ?_) (fun j hj => ?_)
    · by_cases e : j = i
      · rw [e, mAr_s, upd_same]
      · exact (u _ (by omega)).trans (tc j (by omega))
    · exact (u j (by omega)).trans (ts j hj)
  refine Um_suc rfl (fun k => by rw [x_stringOf__28]) (fun m1 _ => ?_)
  refine Um_chk0 (fun _ => ?_)
  rw [h3, hdv]
  refine Um_ite (fun _ => ?_) (fun w => absurd ((n_le (q := 1000) (by omega) (by decide)).mpr (by omega)) w)
  refine Um_suc rfl (fun k => by rw [x_stringOf__28]) (fun m2 _ => ?_)
  refine Um_ob (u_make hS (n := n) (by omega) hr (by exact h3)) (fun r hr => ?_)
  rw [hr]
  refine l2 m2 0 _ _ (Nat.zero_le _) h2 h3 rfl rfl ((mMk_s (by decide)).trans h56) ?_ ?_ ?_ ?_ (fun j hj => absurd hj (Nat.not_lt_zero j)) (fun j hj => ?_)
  · show nI (h + (4 + n)) = _
    rw [Nat.add_assoc]
  · show (mMk σ h _ n).2.2 28 h = _
    rw [mMk_28, upd_other (by omega), upd_other (by omega), upd_other (by omega), upd_same]; rfl
  · show (mMk σ h _ n).2.2 28 (h + 1) = _
    rw [mMk_28, upd_other (by omega), upd_other (by omega), upd_same]
  · show (mMk σ h _ n).2.2 28 (h + 3) = _
    rw [mMk_28, upd_same]; rfl
  · show (mMk σ h _ n).2.2 28 j = _
    rw [mMk_28, upd_other (by omega), upd_other (by omega), upd_other (by omega), upd_other (by omega)]
/-- too long a string -/
theorem v_stringOf28 {m n : Nat} (hn : ¬ n ≤ 3996) (hn2 : n ≤ 60000) {L : Nat → Int32} (h3 : L 3 = nI n) : Um m (fun k => x_stringOf__28 k 0 L σ) (fun r => r = (0, mEr σ 5)) := by
  have hdv : (1 : Int32) + (nI n + 3) / 4 = nI (1 + (n + 3) / 4) := n_str (by omega)
  refine Um_suc rfl (fun k => by rw [x_stringOf__28]) (fun m1 _ => ?_)
  refine Um_chk0 (fun _ => ?_)
  rw [h3, hdv]
  refine Um_ite (fun w => absurd ((n_le (q := 1000) (by omega) (by decide)).mp w) (by omega)) (fun _ => ?_)
  refine Um_ob (Um_t (s_fail _ σ) (fun k => f_fail k _ _ _)) (fun r hr => ?_)
  rw [hr]
  exact Um_some rfl
theorem u_stringOf12 {m f n : Nat} (hS : HS g l B h σ) (h56 : σ.1 56 = 0) (hn : n ≤ 3996) (hr : h + 4 + n ≤ B + 870000) (hf : f + n ≤ 70000) {L : Nat → Int32} (h2 : L 2 = nI f) (h3 : L 3 = nI n) : Um m (fun k => x_stringOf__12 k 0 L σ) (NwO h 4 n (1 + (n + 3) / 4) 0 (fun i => σ.2.2 12 (f + i))) := by
  have hb := HS_b hS
  have hB := hS.2.1
  have hdv : (1 : Int32) + (nI n + 3) / 4 = nI (1 + (n + 3) / 4) := n_str (by omega)
  have l4 : ∀ (m : Nat) (N : Nat → Int32) (τ : MS), N 3 = nI n → N 4 = nI h → τ.1 56 = 0 → τ.1 55 = nI (h + 4 + n) → τ.2.2 28 h = nI 4 → τ.2.2 28 (h + 1) = nI n → τ.2.2 28 (h + 3) = nI 0 → (∀ i, i < n → τ.2.2 28 (h + 4 + i) = σ.2.2 12 (f + i)) → Um m (fun k => x_stringOf__12 k 4 N τ) (NwO h 4 n (1 + (n + 3) / 4) 0 (fun i => σ.2.2 12 (f + i))) := by
    intro m N τ n3 n4 t56 t55 th t1 t3 tc
    refine Um_suc rfl (fun k => by rw [x_stringOf__12]) (fun m _ => ?_)
    refine Um_chk0 (fun _ => ?_)
    rw [n4, show nI h + 2 = nI (h + 2) from n_add (q := 2) (by omega), n3, hdv, n_cl (p := h + 2) (by omega)]
    refine Um_chk (fun _ => ?_)
    show Um m (fun k => x_stringOf__12 k 5 N (mAr τ 28 (h + 2) (nI (1 + (n + 3) / 4)))) _
    refine Um_suc rfl (fun k => by rw [x_stringOf__12]) (fun m _ => ?_)
    have u : ∀ j, j ≠ h + 2 → (mAr τ 28 (h + 2) (nI (1 + (n + 3) / 4))).2.2 28 j = τ.2.2 28 j := fun j hj => by rw [mAr_s, upd_other hj]
    exact Um_some ⟨n4, t55, t56, (u h (by omega)).trans th, (u _ (by omega)).trans t1, by rw [mAr_s, upd_same], (u _ (by omega)).trans t3, fun i hi => (u _ (by omega)).trans (tc i hi)⟩
  have l2 : ∀ (m i : Nat) (N : Nat → Int32) (τ : MS), i ≤ n → N 2 = nI f → N 3 = nI n → N 4 = nI h → N 5 = nI i → τ.1 56 = 0 → τ.1 55 = nI (h + 4 + n) → τ.2.2 28 h = nI 4 → τ.2.2 28 (h + 1) = nI n → τ.2.2 28 (h + 3) = nI 0 → (∀ j, j < i → τ.2.2 28 (h + 4 + j) = σ.2.2 12 (f + j)) → (∀ j, j < 70000 → τ.2.2 12 j = σ.2.2 12 j) → Um m (fun k => x_stringOf__12 k 2 N τ) (NwO h 4 n (1 + (n + 3) / 4) 0 (fun i => σ.2.2 12 (f + i))) := by
    intro m
    induction m using Nat.strongRecOn with
    | ind m ih =>
    intro i N τ hi n2 n3 n4 n5 t56 t55 th t1 t3 tc ts
    refine Um_suc rfl (fun k => by rw [x_stringOf__12]) (fun m1 hm1 => ?_)
    rw [n2, n3, n4, n5, n_add (p := f) (by omega), show nI h + 4 = nI (h + 4) from n_add (q := 4) (by omega), n_add (p := h + 4) (by omega), n_cl (p := f + i) (by omega), n_cl (p := h + 4 + i) (by omega)]
    refine Um_ite (fun y => ?_) (fun y => ?_)
    · have y := (n_le (by omega) (by omega)).mp y
      have e : i = n := by omega
      subst e
      exact l4 m1 N τ n3 n4 t56 t55 th t1 t3 tc
    have hi2 : i < n := by
      by_cases q : n ≤ i
      · exact absurd ((n_le (by omega) (by omega)).mpr q) y
      · omega
    refine Um_ite (fun _ => ?_) (fun w => absurd t56 w)
    refine Um_chk (fun _ => ?_)
    refine Um_chk (fun _ => ?_)
    rw [ts (f + i) (by omega)]
    show Um m1 (fun k => x_stringOf__12 k 3 N (mAr τ 28 (h + 4 + i) (σ.2.2 12 (f + i)))) _
    refine Um_suc rfl (fun k => by rw [x_stringOf__12]) (fun m2 hm2 => ?_)
    have u : ∀ j, j ≠ h + 4 + i → (mAr τ 28 (h + 4 + i) (σ.2.2 12 (f + i))).2.2 28 j = τ.2.2 28 j := fun j hj => by rw [mAr_s, upd_other hj]
    refine ih m2 (by omega) (i + 1) _ _ (by omega) n2 n3 n4 (by show N 5 + 1 = _; rw [n5, n_add1]) t56 t55 ((u _ (by omega)).trans th) ((u _ (by omega)).trans t1) ((u _ (by omega)).trans t3) (fun j hj => ?_) (fun j hj => ?_)
    · by_cases e : j = i
      · rw [e, mAr_s, upd_same]
      · exact (u _ (by omega)).trans (tc j (by omega))
    · rw [mAr_o (by decide)]; exact ts j hj
  refine Um_suc rfl (fun k => by rw [x_stringOf__12]) (fun m1 _ => ?_)
  refine Um_chk0 (fun _ => ?_)
  rw [h3, hdv]
  refine Um_ite (fun _ => ?_) (fun w => absurd ((n_le (q := 1000) (by omega) (by decide)).mpr (by omega)) w)
  refine Um_suc rfl (fun k => by rw [x_stringOf__12]) (fun m2 _ => ?_)
  refine Um_ob (u_make hS (n := n) (by omega) hr (by exact h3)) (fun r hr => ?_)
  rw [hr]
  refine l2 m2 0 _ _ (Nat.zero_le _) h2 h3 rfl rfl ((mMk_s (by decide)).trans h56) ?_ ?_ ?_ ?_ (fun j hj => absurd hj (Nat.not_lt_zero j)) (fun j hj => ?_)
  · show nI (h + (4 + n)) = _
    rw [Nat.add_assoc]
  · show (mMk σ h _ n).2.2 28 h = _
    rw [mMk_28, upd_other (by omega), upd_other (by omega), upd_other (by omega), upd_same]; rfl
  · show (mMk σ h _ n).2.2 28 (h + 1) = _
    rw [mMk_28, upd_other (by omega), upd_other (by omega), upd_same]
  · show (mMk σ h _ n).2.2 28 (h + 3) = _
    rw [mMk_28, upd_same]; rfl
  · show (mMk σ h _ n).2.2 12 j = _
    rw [mMk_o (by decide)]
/-- too long a string -/
theorem v_stringOf12 {m n : Nat} (hn : ¬ n ≤ 3996) (hn2 : n ≤ 60000) {L : Nat → Int32} (h3 : L 3 = nI n) : Um m (fun k => x_stringOf__12 k 0 L σ) (fun r => r = (0, mEr σ 5)) := by
  have hdv : (1 : Int32) + (nI n + 3) / 4 = nI (1 + (n + 3) / 4) := n_str (by omega)
  refine Um_suc rfl (fun k => by rw [x_stringOf__12]) (fun m1 _ => ?_)
  refine Um_chk0 (fun _ => ?_)
  rw [h3, hdv]
  refine Um_ite (fun w => absurd ((n_le (q := 1000) (by omega) (by decide)).mp w) (by omega)) (fun _ => ?_)
  refine Um_ob (Um_t (s_fail _ σ) (fun k => f_fail k _ _ _)) (fun r hr => ?_)
  rw [hr]
  exact Um_some rfl
theorem u_byteString {m : Nat} (hS : HS g l B h σ) (h56 : σ.1 56 = 0) (hr : h + 5 ≤ B + 870000) (L : Nat → Int32) : Um m (fun k => x_byteString k 0 L σ) (NwO h 4 1 2 0 (fun _ => L 1)) := by
  have hb := HS_b hS
  have hB := hS.2.1
  refine Um_suc rfl (fun k => by rw [x_byteString]) (fun m1 _ => ?_)
  refine Um_ob (u_make hS (n := 1) (by omega) (by omega) rfl) (fun r hr => ?_)
  rw [hr]
  refine Um_ite (fun _ => ?_) (fun w => absurd (by rw [mMk_s (by decide), h56]; decide) w)
  have e28 := mMk_28 (σ := σ) (h := h) (k := (upd (upd (fun _ => 0) 1 4) 2 1 : Nat → Int32) 1) (n := 1)
  have e55 : (mMk σ h ((upd (upd (fun _ => 0) 1 4) 2 1 : Nat → Int32) 1) 1).1 55 = nI (h + (4 + 1)) := rfl
  have e56 : (mMk σ h ((upd (upd (fun _ => 0) 1 4) 2 1 : Nat → Int32) 1) 1).1 56 = 0 := (mMk_s (by decide)).trans h56
  generalize mMk σ h ((upd (upd (fun _ => 0) 1 4) 2 1 : Nat → Int32) 1) 1 = τ at e28 e55 e56
  refine Um_suc rfl (fun k => by rw [x_byteString]) (fun m2 _ => ?_)
  rw [show upd L 2 (nI h) 2 = nI h from upd_same, show nI h + 4 = nI (h + 4) from n_add (q := 4) (by omega), n_cl (p := h + 4) (by omega)]
  refine Um_chk (fun _ => ?_)
  show Um m2 (fun k => x_byteString k 2 (upd L 2 (nI h)) (mAr τ 28 (h + 4) (L 1))) _
  refine Um_suc rfl (fun k => by rw [x_byteString]) (fun m3 _ => ?_)
  rw [show upd L 2 (nI h) 2 = nI h from upd_same, show nI h + 2 = nI (h + 2) from n_add (q := 2) (by omega), n_cl (p := h + 2) (by omega)]
  refine Um_chk (fun _ => ?_)
  show Um m3 (fun k => x_byteString k 3 (upd L 2 (nI h)) (mAr (mAr τ 28 (h + 4) (L 1)) 28 (h + 2) 2)) _
  refine Um_suc rfl (fun k => by rw [x_byteString]) (fun m4 _ => ?_)
  have f28 : (mAr (mAr τ 28 (h + 4) (L 1)) 28 (h + 2) 2).2.2 28 = upd (upd (τ.2.2 28) (h + 4) (L 1)) (h + 2) 2 := by rw [mAr_s, mAr_s]
  refine Um_some ⟨(upd_same : upd L 2 (nI h) 2 = nI h), e55, e56, ?_, ?_, ?_, ?_, fun i hi => ?_⟩
  · show (mAr (mAr τ 28 (h + 4) (L 1)) 28 (h + 2) 2).2.2 28 h = _
    rw [f28, upd_other (by omega), upd_other (by omega), e28, upd_other (by omega), upd_other (by omega), upd_other (by omega), upd_same]; rfl
  · show (mAr (mAr τ 28 (h + 4) (L 1)) 28 (h + 2) 2).2.2 28 (h + 1) = _
    rw [f28, upd_other (by omega), upd_other (by omega), e28, upd_other (by omega), upd_other (by omega), upd_same]
  · show (mAr (mAr τ 28 (h + 4) (L 1)) 28 (h + 2) 2).2.2 28 (h + 2) = _
    rw [f28, upd_same]; rfl
  · show (mAr (mAr τ 28 (h + 4) (L 1)) 28 (h + 2) 2).2.2 28 (h + 3) = _
    rw [f28, upd_other (by omega), upd_other (by omega), e28, upd_same]; rfl
  · have e : i = 0 := by omega
    subst e
    show (mAr (mAr τ 28 (h + 4) (L 1)) 28 (h + 2) 2).2.2 28 (h + 4) = _
    rw [f28, upd_other (by omega), upd_same]
end UST
