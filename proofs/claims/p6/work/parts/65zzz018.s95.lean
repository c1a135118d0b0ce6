/-! Errors, work, room: objects are made (reference). -/
def mEr (σ : MS) (e : Int32) : MS := (upd σ.1 56 (if σ.1 56 = 0 then e else σ.1 56), σ.2.1, σ.2.2)
def mSc (σ : MS) (j : Nat) (x : Int32) : MS := (upd σ.1 j x, σ.2.1, σ.2.2)
def mMk (σ : MS) (h : Nat) (k : Int32) (n : Nat) : MS := mAr (mAr (mAr (mAr (mSc σ 55 (nI (h + (4 + n)))) 28 h k) 28 (h + 1) (nI n)) 28 (h + 2) 1) 28 (h + 3) 0
section MAK
variable {g : Nat → Prop} {l : List Nat} {B h : Nat} {σ : MS}
theorem s_fail (L : Nat → Int32) (σ : MS) : Tm (fun k => x_fail k 0 L σ) (fun r => r = (0, mEr σ (L 1))) := by
  unfold mEr
  refine Tm_suc (fun k => by rw [x_fail]) ?_
  refine Tm_ite (fun c => ?_) (fun c => ?_)
  · rw [if_pos c]
    refine Tm_suc (fun k => by rw [x_fail]) ?_
    exact Tm_some rfl
  · rw [if_neg c]
    refine Tm_suc (fun k => by rw [x_fail]) ?_
    refine Tm_suc (fun k => by rw [x_fail]) ?_
    exact Tm_some rfl
theorem mEr_s {e : Int32} {j : Nat} (hj : j ≠ 56) : (mEr σ e).1 j = σ.1 j := upd_other hj
theorem mEr_56 {e : Int32} : (mEr σ e).1 56 = if σ.1 56 = 0 then e else σ.1 56 := by
  show upd σ.1 56 (if σ.1 56 = 0 then e else σ.1 56) 56 = if σ.1 56 = 0 then e else σ.1 56
  exact upd_same
theorem mEr_e {e : Int32} (he : ¬ e = 0) : ¬ (mEr σ e).1 56 = 0 := by
  rw [mEr_56]
  by_cases c : σ.1 56 = 0
  · rw [if_pos c]; exact he
  · rw [if_neg c]; exact c
/-- errors are small -/
def ErB (σ : MS) : Prop := ∃ e, σ.1 56 = nI e ∧ e ≤ 11
theorem ErB_er (h : ErB σ) {e : Nat} (he : e ≤ 11) : ErB (mEr σ (nI e)) := by
  unfold ErB
  rw [mEr_56]
  by_cases c : σ.1 56 = 0
  · rw [if_pos c]; exact ⟨e, rfl, he⟩
  · rw [if_neg c]; exact h
theorem HS_c {τ : MS} (hS : HS g l B h σ) (h54 : τ.1 54 = σ.1 54) (h55 : τ.1 55 = σ.1 55) (h28 : τ.2.2 28 = σ.2.2 28) : HS g l B h τ := by
  obtain ⟨h1, h2, h3, h4, h5⟩ := hS
  exact ⟨h54.trans h1, h2, h55.trans h3, h4, by rw [h28]; exact h5⟩
theorem HS_er (hS : HS g l B h σ) (e : Int32) : HS g l B h (mEr σ e) := HS_c hS (mEr_s (by decide)) (mEr_s (by decide)) rfl
theorem mMk_s {k : Int32} {n j : Nat} (hj : j ≠ 55) : (mMk σ h k n).1 j = σ.1 j := upd_other hj
theorem mMk_o {k : Int32} {n j : Nat} (hj : j ≠ 28) : (mMk σ h k n).2.2 j = σ.2.2 j := by unfold mMk; rw [mAr_o hj, mAr_o hj, mAr_o hj, mAr_o hj]; rfl
theorem mMk_28 {k : Int32} {n : Nat} : (mMk σ h k n).2.2 28 = upd (upd (upd (upd (σ.2.2 28) h k) (h + 1) (nI n)) (h + 2) 1) (h + 3) 0 := by unfold mMk; rw [mAr_s, mAr_s, mAr_s, mAr_s]; rfl
theorem HS_mk {k : Int32} {n : Nat} (hS : HS g l B h σ) (hn : h + 4 + n ≤ B + 870000) : HS g (l ++ [h]) B (h + 4 + n) (mMk σ h k n) := by
  have hb := HS_b hS
  obtain ⟨h1, h2, h3, h4, h5⟩ := hS
  have he : ∀ i, B + 4 ≤ i → i < h → (mMk σ h k n).2.2 28 i = σ.2.2 28 i := fun i _ hi => by
    rw [mMk_28, upd_other (by omega), upd_other (by omega), upd_other (by omega), upd_other (by omega)]
  refine ⟨(mMk_s (by decide)).trans h1, h2, ?_, hn, HO_ext he h5 (by omega) (Til_snoc _ _ _ (Til_ext _ _ he h5.1) ?_) (fun v hv => List.mem_append_left _ hv)⟩
  · show upd σ.1 55 (nI (h + (4 + n))) 55 = nI (h + 4 + n)
    rw [upd_same, Nat.add_assoc]
  · rw [mMk_28, upd_other (by omega), upd_other (by omega), upd_same]
theorem s_make (hS : HS g l B h σ) {n : Nat} (hn : n ≤ 200000) {L : Nat → Int32} (h2 : L 2 = nI n) : Tm (fun k => x_make k 0 L σ) (fun r => (¬ h + 4 + n ≤ B + 870000 ∧ r = (0, mEr σ 5)) ∨ (h + 4 + n ≤ B + 870000 ∧ r = (nI h, mMk σ h (L 1) n))) := by
  have hb := HS_b hS
  obtain ⟨h54, hB, h55, hh, hO⟩ := hS
  refine Tm_suc (fun k => by rw [x_make]) ?_
  rw [h54, h55, h2, show nI h + 4 = nI (h + 4) from n_add (q := 4) (by omega), n_add (by omega), show nI B + 870000 = nI (B + 870000) from n_add (q := 870000) (by omega)]
  refine Tm_ite (fun c => ?_) (fun c => ?_)
  · have c := (n_le (by omega) (by omega)).mp c
    refine Tm_suc (fun k => by rw [x_make]) ?_
    rw [h55, h2, show (4 : Int32) + nI n = nI (4 + n) from n_add (p := 4) (by omega), n_add (by omega)]
    have n3 : upd L 3 (nI h) 3 = nI h := upd_same
    have n1 : upd L 3 (nI h) 1 = L 1 := upd_other (by decide)
    have n2 : upd L 3 (nI h) 2 = nI n := (upd_other (by decide)).trans h2
    show Tm (fun k => x_make k 2 (upd L 3 (nI h)) (mSc σ 55 (nI (h + (4 + n))))) _
    generalize upd L 3 (nI h) = N at n1 n2 n3
    refine Tm_suc (fun k => by rw [x_make]) ?_
    rw [n3]
    refine Tm_chk (n_in (by omega) (by omega)) ?_
    rw [n_cl (p := h) (by omega), n1]
    show Tm (fun k => x_make k 3 N (mAr (mSc σ 55 (nI (h + (4 + n)))) 28 h (L 1))) _
    refine Tm_suc (fun k => by rw [x_make]) ?_
    rw [n3, n_add1]
    refine Tm_chk (n_in (by omega) (by omega)) ?_
    rw [n_cl (p := h + 1) (by omega), n2]
    show Tm (fun k => x_make k 4 N (mAr (mAr (mSc σ 55 (nI (h + (4 + n)))) 28 h (L 1)) 28 (h + 1) (nI n))) _
    refine Tm_suc (fun k => by rw [x_make]) ?_
    rw [n3, show nI h + 2 = nI (h + 2) from n_add (q := 2) (by omega)]
    refine Tm_chk (n_in (by omega) (by omega)) ?_
    rw [n_cl (p := h + 2) (by omega)]
    refine Tm_suc (fun k => by rw [x_make]) ?_
    rw [n3, show nI h + 3 = nI (h + 3) from n_add (q := 3) (by omega)]
    refine Tm_chk (n_in (by omega) (by omega)) ?_
    rw [n_cl (p := h + 3) (by omega)]
    refine Tm_suc (fun k => by rw [x_make]) ?_
    rw [n3]
    exact Tm_some (Or.inr ⟨c, rfl⟩)
  · have c : ¬ h + 4 + n ≤ B + 870000 := fun z => c ((n_le (by omega) (by omega)).mpr z)
    refine Tm_ob (s_fail _ σ) (fun r hr => ?_)
    rw [hr]
    exact Tm_some (Or.inl ⟨c, rfl⟩)
end MAK
