/-! Sets of what lies upon the pile (reference). -/
section SET1
variable {g : Nat → Prop} {l : List Nat} {B h t : Nat} {σ : MS}
/-- while sorting: the values upon the pile stay values -/
def IDs (g : Nat → Prop) (f n : Nat) (σ τ : MS) : Prop := SF f σ τ ∧ τ.1 59 = σ.1 59 ∧ PLv g (τ.2.2 29) f n
def DQ (g : Nat → Prop) (f n : Nat) (σ : MS) (r : Int32 × MS) : Prop := ∃ m, m ≤ n ∧ SF f σ r.2 ∧ r.2.1 59 = nI (f + m) ∧ PLv g (r.2.2.2 29) f m
theorem IDs_put {f n i x : Nat} {τ : MS} (hI : IDs g f n σ τ) (hx : x < 3 ∨ g x) : IDs g f n σ (mAr τ 29 (f + i) (nI x)) := by
  refine ⟨SF_tr hI.1 (SF_29 (by omega)), hI.2.1, fun q hq => ?_⟩
  by_cases e : q = i
  · rw [e, mAr_s, upd_same]; exact ⟨x, rfl, hx⟩
  · rw [mAr_s, upd_other (by omega)]; exact hI.2.2 q hq
/-- those that are equal are left out -/
theorem s_dis12 {f n : Nat} (hS : HS g l B h σ) (hfn : f + n ≤ 185000) : ∀ (q i j : Nat) (N : Nat → Int32) (τ : MS), q + i = n → j ≤ i → N 1 = nI f → N 2 = nI n → N 3 = nI j → N 4 = nI i → IDs g f n σ τ → Tm (fun k => x_distinct k 12 N τ) (DQ g f n σ) := by
  intro q
  induction q with
  | zero =>
    intro i j N τ hi hj n1 n2 n3 n4 hI
    refine Tm_suc (fun k => by rw [x_distinct]) ?_
    rw [n2, n4]
    refine Tm_ite (fun _ => ?_) (fun w => absurd ((n_le (by omega) (by omega)).mpr (by omega)) w)
    refine Tm_suc (fun k => by rw [x_distinct]) ?_
    rw [n1, n3, n_add (by omega)]
    refine Tm_some ⟨j, by omega, ⟨fun k hk => ?_, hI.1.2.1, hI.1.2.2⟩, rfl, PLv_mo hI.2.2 (by omega)⟩
    show upd τ.1 59 _ k = _
    rw [upd_other hk, hI.1.1 k hk]
  | succ q ih =>
    intro i j N τ hi hj n1 n2 n3 n4 hI
    have b15 : ∀ (j' : Nat) (M : Nat → Int32) (υ : MS), j' ≤ i + 1 → M 1 = nI f → M 2 = nI n → M 3 = nI j' → M 4 = nI i → IDs g f n σ υ → Tm (fun k => x_distinct k 15 M υ) (DQ g f n σ) := fun j' M υ e m1 m2 m3 m4 hI => by
      refine Tm_suc (fun k => by rw [x_distinct]) ?_
      exact ih (i + 1) j' _ _ (by omega) e m1 m2 m3 (by show M 4 + 1 = _; rw [m4, n_add1]) hI
    have b13 : Tm (fun k => x_distinct k 13 N τ) (DQ g f n σ) := by
      obtain ⟨x, x1, x2⟩ := hI.2.2 i (by omega)
      refine Tm_suc (fun k => by rw [x_distinct]) ?_
      rw [n1, n3, n4, n_add (by omega), n_add (by omega)]
      refine Tm_chk (n_in (by omega) (by omega)) ?_
      refine Tm_chk (n_in (by omega) (by omega)) ?_
      rw [n_cl (p := f + i) (by omega), n_cl (p := f + j) (by omega), x1]
      show Tm (fun k => x_distinct k 14 N (mAr τ 29 (f + j) (nI x))) _
      refine Tm_suc (fun k => by rw [x_distinct]) ?_
      exact b15 (j + 1) _ _ (by omega) n1 n2 (by show N 3 + 1 = _; rw [n3, n_add1]) n4 (IDs_put hI x2)
    refine Tm_suc (fun k => by rw [x_distinct]) ?_
    rw [n2, n4, n3, n1]
    refine Tm_ite (fun w => absurd ((n_le (by omega) (by omega)).mp w) (by omega)) (fun _ => ?_)
    refine Tm_ite (fun _ => b13) (fun w => ?_)
    have hj0 : 0 < j := by
      by_cases e : j = 0
      · exact absurd (by rw [e]; rfl) w
      · omega
    obtain ⟨x, x1, x2⟩ := hI.2.2 i (by omega)
    obtain ⟨y, y1, y2⟩ := hI.2.2 (j - 1) (by omega)
    rw [n_add (by omega), n_add (by omega), show nI (f + j) - 1 = nI (f + (j - 1)) from (n_sub (p := f + j) (q := 1) (by omega) (by omega)).trans (by rw [show f + j - 1 = f + (j - 1) by omega])]
    refine Tm_chk (n_in (by omega) (by omega)) ?_
    refine Tm_chk (n_in (by omega) (by omega)) ?_
    rw [n_cl (p := f + i) (by omega), n_cl (p := f + (j - 1)) (by omega), x1, y1]
    refine Tm_ob (s_compareV (SF_HS hI.1 hS) y2 x2 rfl rfl) (fun r hr => ?_)
    rw [hr]
    exact Tm_ite (fun _ => b15 j N τ (by omega) n1 n2 n3 n4 hI) (fun _ => b13)
/-- what was sorted goes back -/
theorem s_dis8 {f n : Nat} (hfn : f + n ≤ 185000) (hn : n ≤ 60100) {w : Nat} {Q : Int32 × MS → Prop} (hk : ∀ (N : Nat → Int32) (τ : MS), N 1 = nI f → N 2 = nI n → N 3 = nI w → IDs g f n σ τ → Tm (fun k => x_distinct k 10 N τ) Q) : ∀ (q i : Nat) (N : Nat → Int32) (τ : MS), q + i = n → N 1 = nI f → N 2 = nI n → N 3 = nI w → N 4 = nI i → IDs g f n σ τ → (∀ p, p < n → ∃ m, τ.2.2 41 p = nI m ∧ (m < 3 ∨ g m)) → Tm (fun k => x_distinct k 8 N τ) Q := by
  intro q
  induction q with
  | zero =>
    intro i N τ hi n1 n2 n3 n4 hI h41
    refine Tm_suc (fun k => by rw [x_distinct]) ?_
    rw [n2, n4]
    exact Tm_ite (fun _ => hk N τ n1 n2 n3 hI) (fun w => absurd ((n_le (by omega) (by omega)).mpr (by omega)) w)
  | succ q ih =>
    intro i N τ hi n1 n2 n3 n4 hI h41
    obtain ⟨x, x1, x2⟩ := h41 i (by omega)
    refine Tm_suc (fun k => by rw [x_distinct]) ?_
    rw [n2, n4, n1, n_add (by omega)]
    refine Tm_ite (fun w => absurd ((n_le (by omega) (by omega)).mp w) (by omega)) (fun _ => ?_)
    refine Tm_chk (n_in (by omega) (by omega)) ?_
    refine Tm_chk (n_in (by omega) (by omega)) ?_
    rw [n_cl (p := f + i) (by omega), n_cl (p := i) (by omega), x1]
    show Tm (fun k => x_distinct k 9 N (mAr τ 29 (f + i) (nI x))) _
    refine Tm_suc (fun k => by rw [x_distinct]) ?_
    exact ih (i + 1) _ _ (by omega) n1 n2 n3 (by show N 4 + 1 = _; rw [n4, n_add1]) (IDs_put hI x2) (by rw [mAr_o (by decide)]; exact h41)
/-- runs of one length become runs of twice that length -/
theorem s_dis2 {f n : Nat} (hS : HS g l B h σ) (hfn : f + n ≤ 185000) (hn : n ≤ 60100) {w : Nat} (hw : 1 ≤ w) (hwn : w < n) {Q : Int32 × MS → Prop} (hk : ∀ (N : Nat → Int32) (τ : MS), N 1 = nI f → N 2 = nI n → N 3 = nI w → IDs g f n σ τ → (∀ p, p < n → ∃ m, τ.2.2 41 p = nI m ∧ (m < 3 ∨ g m)) → Tm (fun k => x_distinct k 7 N τ) Q) : ∀ (q i : Nat) (N : Nat → Int32) (τ : MS), n ≤ q + i → i ≤ n + 2 * w → N 1 = nI f → N 2 = nI n → N 3 = nI w → N 4 = nI i → IDs g f n σ τ → (∀ p, p < i → p < n → ∃ m, τ.2.2 41 p = nI m ∧ (m < 3 ∨ g m)) → Tm (fun k => x_distinct k 2 N τ) Q := by
  have d2 : (2 : Int32) * nI w = nI (2 * w) := by
    rw [Int32.two_mul, n_add (by omega), Nat.two_mul]
  intro q
  induction q with
  | zero =>
    intro i N τ hi hi2 n1 n2 n3 n4 hI h41
    refine Tm_suc (fun k => by rw [x_distinct]) ?_
    rw [n2, n4]
    exact Tm_ite (fun _ => hk N τ n1 n2 n3 hI (fun p hp => h41 p (by omega) hp)) (fun w => absurd ((n_le (by omega) (by omega)).mpr (by omega)) w)
  | succ q ih =>
    intro i N τ hi hi2 n1 n2 n3 n4 hI h41
    have b6 : ∀ (b c : Nat) (M : Nat → Int32), i ≤ b → b ≤ c → c ≤ n → (∀ p, p < i + 2 * w → p < n → p < c) → i < n → M 1 = nI f → M 2 = nI n → M 3 = nI w → M 4 = nI i → M 100 = nI c → M 101 = nI b → M 102 = nI i → M 103 = nI f → Tm (fun k => x_distinct k 6 M τ) Q := by
      intro b c M e1 e2 e3 e4 e5 m1 m2 m3 m4 m100 m101 m102 m103
      refine Tm_suc (fun k => by rw [x_distinct]) ?_
      refine Tm_ob (s_merge (SF_HS hI.1 hS) hI.2.2 hn hfn e1 e2 e3 (by exact m103) (by exact m102) (by exact m101) (by exact m100)) (fun r hr => ?_)
      obtain ⟨r1, r2, r3, r4, r5⟩ := hr
      refine ih (i + 2 * w) _ _ (by omega) (by omega) m1 m2 m3 (by show M 4 + 2 * M 3 = _; rw [m4, m3, d2, n_add (by omega)]) ⟨SF_tr hI.1 r1, r3.trans hI.2.1, by rw [r2]; exact hI.2.2⟩ (fun p hp1 hp2 => ?_)
      have hpc := e4 p hp1 hp2
      by_cases e : p < i
      · rw [r5 p (Or.inl e)]; exact h41 p e hp2
      · exact r4 p (by omega) hpc
    have b4 : ∀ (b : Nat) (M : Nat → Int32), i ≤ b → b ≤ n → b ≤ i + w → i < n → M 1 = nI f → M 2 = nI n → M 3 = nI w → M 4 = nI i → M 100 = nI b → M 101 = nI i → M 102 = nI f → Tm (fun k => x_distinct k 4 M τ) Q := by
      intro b M e1 e2 e3 e4 m1 m2 m3 m4 m100 m101 m102
      refine Tm_suc (fun k => by rw [x_distinct]) ?_
      rw [m2, m4, m3, d2, n_add (by omega)]
      refine Tm_ite (fun z => ?_) (fun z => ?_)
      · refine Tm_suc (fun k => by rw [x_distinct]) ?_
        exact b6 b n _ e1 e2 (Nat.le_refl _) (fun p _ hp => hp) e4 m1 m2 m3 m4 m2 m100 m101 m102
      · have z2 : i + 2 * w ≤ n := by
          by_cases e : n ≤ i + 2 * w
          · exact absurd ((n_le (by omega) (by omega)).mpr e) z
          · omega
        exact b6 b (i + 2 * w) _ e1 (by omega) z2 (fun p hp _ => hp) e4 m1 m2 m3 m4 rfl m100 m101 m102
    refine Tm_suc (fun k => by rw [x_distinct]) ?_
    rw [n2, n4, n3, n1, n_add (by omega)]
    refine Tm_ite (fun z => hk N τ n1 n2 n3 hI (fun p hp => h41 p (by have := (n_le (by omega) (by omega)).mp z; omega) hp)) (fun z => ?_)
    have hin : i < n := by
      by_cases e : n ≤ i
      · exact absurd ((n_le (by omega) (by omega)).mpr e) z
      · omega
    refine Tm_ite (fun z => ?_) (fun z => ?_)
    · have z2 := (n_le (by omega) (by omega)).mp z
      refine Tm_suc (fun k => by rw [x_distinct]) ?_
      exact b4 n _ (by omega) (Nat.le_refl _) (by omega) hin n1 n2 n3 n4 n2 rfl rfl
    · have z2 : i + w ≤ n := by
        by_cases e : n ≤ i + w
        · exact absurd ((n_le (by omega) (by omega)).mpr e) z
        · omega
      exact b4 (i + w) _ (by omega) z2 (Nat.le_refl _) hin n1 n2 n3 n4 rfl rfl rfl
theorem s_dis1 {f n : Nat} (hS : HS g l B h σ) (hfn : f + n ≤ 185000) (hn : n ≤ 60100) : ∀ (q w : Nat) (N : Nat → Int32) (τ : MS), n ≤ q + w → 1 ≤ w → w ≤ 2 * n + 1 → N 1 = nI f → N 2 = nI n → N 3 = nI w → IDs g f n σ τ → Tm (fun k => x_distinct k 1 N τ) (DQ g f n σ) := by
  have b11 : ∀ (N : Nat → Int32) (τ : MS), N 1 = nI f → N 2 = nI n → IDs g f n σ τ → Tm (fun k => x_distinct k 11 N τ) (DQ g f n σ) := by
    intro N τ n1 n2 hI
    refine Tm_suc (fun k => by rw [x_distinct]) ?_
    exact s_dis12 hS hfn n 0 0 _ _ (by omega) (Nat.le_refl _) n1 n2 rfl rfl hI
  intro q
  induction q with
  | zero =>
    intro w N τ hi hw hw2 n1 n2 n3 hI
    refine Tm_suc (fun k => by rw [x_distinct]) ?_
    rw [n2, n3]
    exact Tm_ite (fun _ => b11 N τ n1 n2 hI) (fun w => absurd ((n_le (by omega) (by omega)).mpr (by omega)) w)
  | succ q ih =>
    intro w N τ hi hw hw2 n1 n2 n3 hI
    refine Tm_suc (fun k => by rw [x_distinct]) ?_
    rw [n2, n3]
    refine Tm_ite (fun _ => b11 N τ n1 n2 hI) (fun z => ?_)
    have hwn : w < n := by
      by_cases e : n ≤ w
      · exact absurd ((n_le (by omega) (by omega)).mpr e) z
      · omega
    refine s_dis2 hS hfn hn hw hwn (Q := DQ g f n σ) (fun M υ m1 m2 m3 hJ h41 => ?_) n 0 _ _ (by omega) (by omega) n1 n2 n3 rfl hI (fun p hp => absurd hp (Nat.not_lt_zero p))
    refine Tm_suc (fun k => by rw [x_distinct]) ?_
    refine s_dis8 hfn hn (w := w) (fun O ρ o1 o2 o3 hK => ?_) n 0 _ _ (by omega) m1 m2 m3 rfl hJ h41
    refine Tm_suc (fun k => by rw [x_distinct]) ?_
    exact ih (w + w) _ _ (by omega) (by omega) (by omega) o1 o2 (by show O 3 + O 3 = _; rw [o3, n_add (by omega)]) hK
theorem s_distinct {f n : Nat} (hS : HS g l B h σ) (hV : PLv g (σ.2.2 29) f n) (h59 : σ.1 59 = nI (f + n)) (hfn : f + n ≤ 185000) (hn : n ≤ 60100) {L : Nat → Int32} (h1 : L 1 = nI f) : Tm (fun k => x_distinct k 0 L σ) (DQ g f n σ) := by
  refine Tm_suc (fun k => by rw [x_distinct]) ?_
  rw [h59, h1, n_sub (by omega) (by omega), show f + n - f = n by omega]
  exact s_dis1 hS hfn hn n 1 _ _ (by omega) (Nat.le_refl _) (by omega) h1 rfl rfl ⟨SF_rf, rfl, hV⟩
end SET1
