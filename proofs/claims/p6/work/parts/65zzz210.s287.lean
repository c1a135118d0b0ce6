/-! A value is shown (reference). -/
/-- what showing v leaves -/
def ShF (σ : MS) (v : Int32) (ω : MS) : Prop := (∀ j, ¬ (j = 79 ∨ j = 84 ∨ j = 93 ∨ j = 120) → ω.1 j = σ.1 j) ∧ ω.2.1 = σ.2.1 ∧ (∀ a, ¬ (a = 40 ∨ a = 42 ∨ a = 48 ∨ a = 49 ∨ a = 57) → ω.2.2 a = σ.2.2 a) ∧ ω.2.2 40 0 = v ∧ ω.2.2 40 1 = σ.2.2 40 0 ∧ (∃ q, ω.1 120 = nI q ∧ q ≤ 12000) ∧ ω.1 79 = σ.1 79 + 1
section SHW
variable {σ ω : MS} {t X B h : Nat} {g : Nat → Prop} {l : List Nat} {L : Nat → Int32}
theorem s_show (hS : HS g l B h σ) {a : Nat} (ha : a < 3 ∨ g a) (d1 : L 1 = nI a) : Tm (fun k => x_show k 0 L σ) (fun r => ShF σ (nI a) r.2) := by
  refine Tm_suc (fun k => by rw [x_show]) ?_
  refine Tm_chk (by decide) ?_
  refine Tm_chk (by decide) ?_
  rw [show (0 : Int32).toNatClampNeg = 0 from by decide, show (1 : Int32).toNatClampNeg = 1 from by decide]
  show Tm (fun k => x_show k 1 L (mAr σ 40 1 (σ.2.2 40 0))) _
  refine Tm_suc (fun k => by rw [x_show]) ?_
  refine Tm_chk (by decide) ?_
  rw [show (0 : Int32).toNatClampNeg = 0 from by decide, d1]
  show Tm (fun k => x_show k 2 L (mAr (mAr σ 40 1 (σ.2.2 40 0)) 40 0 (nI a))) _
  refine Tm_suc (fun k => by rw [x_show]) ?_
  show Tm (fun k => x_show k 3 L (mSc (mAr (mAr σ 40 1 (σ.2.2 40 0)) 40 0 (nI a)) 79 (σ.1 79 + 1))) _
  refine Tm_suc (fun k => by rw [x_show]) ?_
  show Tm (fun k => x_show k 4 L (mSc (mSc (mAr (mAr σ 40 1 (σ.2.2 40 0)) 40 0 (nI a)) 79 (σ.1 79 + 1)) 93 0)) _
  -- the state before it is printed
  obtain ⟨τ, hτ⟩ : ∃ τ, τ = mSc (mSc (mAr (mAr σ 40 1 (σ.2.2 40 0)) 40 0 (nI a)) 79 (σ.1 79 + 1)) 93 0 := ⟨_, rfl⟩
  rw [← hτ]
  have s0 : ∀ j, ¬ (j = 79 ∨ j = 93) → τ.1 j = σ.1 j := fun j hj => by
    rw [hτ]
    show upd (upd σ.1 79 _) 93 0 j = _
    rw [upd_other (by omega), upd_other (by omega)]
  have r0 : ∀ b, b ≠ 40 → τ.2.2 b = σ.2.2 b := fun b hb => by
    rw [hτ]
    show (mAr (mAr σ 40 1 _) 40 0 _).2.2 b = _
    rw [mAr_o hb, mAr_o hb]
  have v0 : τ.2.2 40 0 = nI a := by
    rw [hτ]
    show (mAr (mAr σ 40 1 _) 40 0 _).2.2 40 0 = _
    rw [mAr_s, upd_same]
  have v1 : τ.2.2 40 1 = σ.2.2 40 0 := by
    rw [hτ]
    show (mAr (mAr σ 40 1 _) 40 0 _).2.2 40 1 = _
    rw [mAr_s, upd_other (by decide), mAr_s, upd_same]
  have l0 : τ.2.1 = σ.2.1 := by rw [hτ]; rfl
  have c79 : τ.1 79 = σ.1 79 + 1 := by rw [hτ]; rfl
  have c93 : τ.1 93 = nI 0 := by rw [hτ]; rfl
  have hS' : HS g l B h τ := HS_c hS (s0 54 (by decide)) (s0 55 (by decide)) (r0 28 (by decide))
  have sz := (szN_b hS' ha).2.1
  refine Tm_suc (fun k => by rw [x_show]) ?_
  refine Tm_ob (Tm_pq (s_printV hS' ha c93 (by omega) (show (upd (upd (fun _ => 0) 1 (L 1)) 2 0 : Nat → Int32) 1 = nI a from d1)) (fun k r e => wl_print k _ _ _ r e)) (fun r1 hr1 => ?_)
  obtain ⟨⟨pf, q, q1, _, q2⟩, lw⟩ := hr1
  show Tm (fun k => x_show k 5 L (mSc r1.2 120 (r1.2.1 93))) _
  refine Tm_suc (fun k => by rw [x_show]) ?_
  rw [q1]
  have hq : q ≤ 12000 := by omega
  -- the text is copied
  have lp : ∀ (d i : Nat) (N : Nat → Int32) (υ : MS), d + i = q → N 2 = nI i → (∀ j, υ.1 j = (mSc r1.2 120 (nI q)).1 j) → υ.2.1 = r1.2.2.1 → (∀ b, b ≠ 57 → υ.2.2 b = r1.2.2.2 b) → Tm (fun k => x_show k 6 N υ) (fun r => ShF σ (nI a) r.2) := by
    intro d
    induction d with
    | zero =>
      intro i N υ hi n2 us ul ur
      have i93 : υ.1 93 = nI q := (us 93).trans q1
      refine Tm_suc (fun k => by rw [x_show]) ?_
      rw [n2, i93]
      refine Tm_ite (fun _ => ?_) (fun z => absurd ((n_le (by omega) (by omega)).mpr (by omega)) z)
      refine Tm_suc (fun k => by rw [x_show]) ?_
      refine Tm_some ⟨fun j hj => ?_, ?_, fun b hb => ?_, ?_, ?_, ⟨q, us 120, hq⟩, ?_⟩
      · show υ.1 j = _
        rw [us j]
        show upd r1.2.1 120 (nI q) j = _
        rw [upd_other (by omega), pf.1 j (by omega), s0 j (by omega)]
      · exact ul.trans (lw.trans l0)
      · show υ.2.2 b = _
        rw [ur b (by omega), pf.2 b (by omega), r0 b (by omega)]
      · show υ.2.2 40 0 = _
        rw [ur 40 (by decide), pf.2 40 (by decide)]; exact v0
      · show υ.2.2 40 1 = _
        rw [ur 40 (by decide), pf.2 40 (by decide)]; exact v1
      · show υ.1 79 = _
        rw [us 79]
        show upd r1.2.1 120 (nI q) 79 = _
        rw [upd_other (by decide), pf.1 79 (by decide)]; exact c79
    | succ d ih =>
      intro i N υ hi n2 us ul ur
      have i93 : υ.1 93 = nI q := (us 93).trans q1
      refine Tm_suc (fun k => by rw [x_show]) ?_
      rw [n2, i93]
      refine Tm_ite (fun z => absurd ((n_le (by omega) (by omega)).mp z) (by omega)) (fun _ => ?_)
      refine Tm_chk (n_in (by omega) (by omega)) ?_
      refine Tm_chk (n_in (by omega) (by omega)) ?_
      rw [n_cl (p := i) (by omega)]
      show Tm (fun k => x_show k 7 N (mAr υ 57 i (υ.2.2 48 i))) _
      refine Tm_suc (fun k => by rw [x_show]) ?_
      rw [n2, n_add1]
      exact ih (i + 1) _ _ (by omega) rfl (fun j => us j) ul (fun b hb => (mAr_o hb).trans (ur b hb))
  exact lp q 0 _ _ (by omega) rfl (fun j => rfl) rfl (fun b hb => rfl)
end SHW
